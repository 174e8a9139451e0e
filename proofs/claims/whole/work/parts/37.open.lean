theorem D107 {d : Nat} {m : Mm} {Q : Option Value → Mm → Prop} {b : Nat} {E : Nat → Nat → Int32} {L : Nat → Nat → Int64} (hW : Wd m.2.2) (hB2 : LW m.2.2 b) (hdj : b + 19 ≤ 87 ∨ 87 + 6 ≤ b) {D : Nat → Nat → Int32} {K : Nat → Nat → Int64} {B : Nat → Int32} {n : Nat} (hd : 2 ≤ d) (hn : n ≤ 1200) (hB : D 2 = B) (hQ : ∀ D1 K1, TC B n 0 D1 K1 → D1 1 1 = nI 0 → (∀ g, g ≠ 1 → D1 g = D g) → (∀ g, g ≠ 1 → K1 g = K g) → Q none (pp m 87 6 D1 K1 b 19 E L)) : Cc d 0 0 107 [.ref 88, .int (nI n)] (pp m 87 6 D K b 19 E L) Q := by
  refine ent (n := 56) z107 (by decide) rfl (by decide) (Nat.le_of_ble_eq_true rfl) (fun sc => ?_)
  refine And.intro (fun cz2 => ?_) (fun cz2 => False.elim (cz2 (nI_pos' (by omega))))
  refine And.intro ⟨by omega, Nat.le_of_ble_eq_true rfl, Nat.le_refl _, Nat.le_refl _⟩ ?_
  refine And.intro (Wdo_88 hW) ?_
  rw [pp_u1 (x := 87) (f := 1) (by decide)]
  refine And.intro (Wdo_88 hW) ?_
  rw [pp_u1 (x := 87) (f := 1) (by decide)]
  refine And.intro (Wdo_88 hW) ?_
  rw [pp_u1 (x := 87) (f := 1) (by decide)]
  refine And.intro ⟨by omega, Nat.le_of_ble_eq_true rfl, Nat.le_refl _, Nat.le_refl _⟩ (And.intro (Wdo_88 hW) ?_)
  refine D108 (B := B) (n := n) (i := 0) (D0 := (ud (ud (ud D 1 2 (if nI 1200 < nI n then nI 1200 else nI n)) 1 1 (nI 0)) 1 3 (nI 0))) hW hB2 hdj (by omega) hn (Nat.zero_le _) (if_neg (nI_nlt hn (by decide))) hB rfl rfl (fun D1 K1 uT u9 u1 uD uK => ?_)
  refine And.intro ⟨rfl, rfl, Nat.le_refl _, Nat.le_refl _⟩ ?_
  exact hQ D1 K1 uT u1 (fun g hg => by rw [uD g hg, ud_ne hg, ud_ne hg, ud_ne hg]) uK
theorem ixF_n {c : Int64} : ∀ {l : List Int64} {x : Nat}, ixF c l (nI x) = -nI 1 ∨ ∃ j, j < l.length ∧ ixF c l (nI x) = nI (x + j)
  | [], _ => Or.inl rfl
  | e :: r, x => by
    unfold ixF
    split
    · exact Or.inr ⟨0, Nat.zero_lt_succ _, rfl⟩
    · rw [nI_add]
      rcases ixF_n (c := c) (l := r) (x := x + 1) with h | ⟨j, hj, h⟩
      · exact Or.inl h
      · exact Or.inr ⟨j + 1, Nat.succ_lt_succ hj, by rw [h, show x + 1 + j = x + (j + 1) by omega]⟩
def opS (B : Nat → Int32) (n i : Nat) : Int32 := ixF (coT B n i) rsvL (nI 0)
theorem opS_n {B : Nat → Int32} {n i : Nat} (h : ¬ opS B n i = -nI 1) : ∃ s, s < 14 ∧ opS B n i = nI s := by
  rcases ixF_n (c := coT B n i) (l := rsvL) (x := 0) with q | ⟨j, hj, q⟩
  · exact absurd q h
  · exact ⟨j, hj, by rw [show opS B n i = nI (0 + j) from q, Nat.zero_add]⟩
/-- the line that begins, by its word -/
def opF (E : Nat → Nat → Int32) (B : Nat → Int32) (n i : Nat) : Rs (Nat × Nat) := if ¬ kiF B n i = 2 ∨ opS B n i = -nI 1 ∨ opS B n i = nI 13 then .inl (1, plF B n i) else if ¬ opS B n i = nI 0 ∧ ¬ 0 < E 1 0 then .inl (6, plF B n i) else if (opS B n i = nI 0 ∨ opS B n i = nI 3) ∧ 0 < E 1 (nv (opS B n i)) then .inl (3, plF B n i) else if (if opS B n i = nI 1 then E 0 1 else roomL.getD (nv (opS B n i)) 0) ≤ E 1 (nv (opS B n i)) then .inl (5, plF B n i) else .inr (nv (opS B n i), nxF B n i)
theorem D59 {d : Nat} {m : Mm} {Q : Option Value → Mm → Prop} {b : Nat} {E : Nat → Nat → Int32} {L : Nat → Nat → Int64} (hW : Wd m.2.2) (hB2 : LW m.2.2 b) (hdj : b + 19 ≤ 87 ∨ 87 + 6 ≤ b) {D : Nat → Nat → Int32} {K : Nat → Nat → Int64} {B : Nat → Int32} {n k i : Nat} (hd : 6 ≤ d) (hb4 : va_rf (mR m 87 4) = .ref b) (hR : RS B n k i D K) (hF : ∀ D1 K1 f p, opF E B n i = .inl (f, p) → D1 0 7 = nI f → D1 0 8 = nI p → D1 1 1 = nI 0 → Q (some (.int (-nI 1))) (pp m 87 6 D1 K1 b 19 E L)) (hO : ∀ D1 K1 s j, opF E B n i = .inr (s, j) → SU B n k i j D K D1 K1 → Q (some (.int (nI s))) (pp m 87 6 D1 K1 b 19 E L)) : Cc d 0 0 59 [.ref 87] (pp m 87 6 D K b 19 E L) Q := by
  obtain ⟨hT, hi, hn, h05, h07⟩ := hR
  have tB := hT.1
  have t2 := hT.2.1
  have t5 := hT.2.2.1
  have t4 := hT.2.2.2.1
  have t3 := hT.2.2.2.2.1
  have tw := hT.2.2.2.2.2.1
  have t1 := hT.2.2.2.2.2.2.2.2
  refine ent (n := 160) z59 (by decide) rfl (by decide) (Nat.le_of_ble_eq_true rfl) (fun sc => ?_)
  refine And.intro (Wdo_87 hW) (Exists.intro _ (And.intro (Wdr_87_0 hW) ?_))
  refine And.intro ⟨by omega, Nat.le_of_ble_eq_true rfl, Nat.le_refl _, Nat.le_refl _⟩ (And.intro (Wdo_88 hW) ?_)
  refine D110 (s0 := 0) hW hB2 hdj (by omega) (by decide) (by decide) ?_ ?_
  · -- a way behind the call
    intro h2q
    have kk2 : ¬ kiF B n i = 2 := fun z => h2q ((ki_q t4 (by decide)).mpr z)
    refine And.intro (fun cz9 => ?_) (fun cz9 => ?_)
    · -- 9 taken: -nI 1 = -nI 1
      refine And.intro (fun cz58 => False.elim (absurd cz58 (by decide))) (fun cz58 => ?_)
      refine And.intro ⟨by omega, Nat.le_of_ble_eq_true rfl, Nat.le_refl _, Nat.le_refl _⟩ (And.intro (Wdo_87 hW) ?_)
      refine D84 hW hB2 hdj ?_
      refine And.intro rfl ?_
      refine And.intro ⟨rfl, trivial, Nat.le_refl _, Nat.le_refl _⟩ ?_
      exact hF _ _ 1 (plF B n i) (if_pos (Or.inl kk2)) rfl t5 t1
    · -- 9 not: ¬ -nI 1 = -nI 1
      skip
      exact absurd rfl cz9
  · -- a way behind the call
    intro h2q
    have kk2 := (ki_q (c := 2) t4 (by decide)).mp h2q
    rw [wl_rsv, (tw kk2).2, show ixF (coT B n i) rsvL (nI 0) = opS B n i from rfl]
    refine And.intro (fun cz9 => ?_) (fun cz9 => ?_)
    · -- 9 taken: opS B n i = -nI 1
      refine And.intro (fun cz58 => False.elim (absurd cz58 (by decide))) (fun cz58 => ?_)
      refine And.intro ⟨by omega, Nat.le_of_ble_eq_true rfl, Nat.le_refl _, Nat.le_refl _⟩ (And.intro (Wdo_87 hW) ?_)
      refine D84 hW hB2 hdj ?_
      refine And.intro rfl ?_
      refine And.intro ⟨rfl, trivial, Nat.le_refl _, Nat.le_refl _⟩ ?_
      exact hF _ _ 1 (plF B n i) (if_pos (Or.inr (Or.inl cz9))) rfl t5 t1
    · -- 9 not: ¬ opS B n i = -nI 1
      obtain ⟨s9, hs14, hs9⟩ := opS_n cz9; rw [hs9]
      refine And.intro (fun cz12 => ?_) (fun cz12 => ?_)
      · -- 12 taken: ¬ nI s9 = nI 13
        have kz12 : s9 ≠ 13 := kne (a := s9) (b := 13) rfl rfl (by omega) (by omega) cz12
        have hs13 : s9 < 13 := by omega
        refine And.intro (fun cz17 => ?_) (fun cz17 => ?_)
        · -- 17 taken: nI s9 = 0
          have kz17 : s9 = 0 := keq (a := s9) (b := 0) rfl rfl (by omega) (by omega) cz17
          refine And.intro (fun cz26 => ?_) (fun cz26 => ?_)
          · -- 26 taken: nI s9 = 0
            have kz26 : s9 = 0 := keq (a := s9) (b := 0) rfl rfl (by omega) (by omega) cz26
            refine And.intro (Wdo_87 hW) (Exists.intro _ (And.intro hb4 ?_))
            refine And.intro (LWo_0 hB2) (Exists.intro _ (And.intro (LWr_0_4 hB2) ?_))
            refine And.intro (LWi_1 hB2 (vi rfl (by omega))) ?_
            rw [nI_clamp (show s9 < 2 ^ 31 by omega)]
            rw [pp_2 (y := b) (f := 1) (by omega) (by decide)]
            refine And.intro (fun cz35 => ?_) (fun cz35 => ?_)
            · -- 35 taken: E 1 s9 ≤ 0
              refine And.intro (Wdo_87 hW) (Exists.intro _ (And.intro hb4 ?_))
              refine And.intro (LWo_0 hB2) (Exists.intro _ (And.intro (LWr_0_4 hB2) ?_))
              refine And.intro (LWi_1 hB2 (vi rfl (by omega))) ?_
              rw [nI_clamp (show s9 < 2 ^ 31 by omega)]
              rw [pp_2 (y := b) (f := 1) (by omega) (by decide)]
              refine And.intro (fun cz46 => ?_) (fun cz46 => ?_)
              · -- 46 taken: ¬ nI s9 = nI 1
                have kz46 : s9 ≠ 1 := kne (a := s9) (b := 1) rfl rfl (by omega) (by omega) cz46
                refine And.intro ⟨rfl, vi rfl (by show _ < 13; omega)⟩ ?_
                rw [vc rfl (by omega)]
                refine And.intro (fun cz54 => ?_) (fun cz54 => ?_)
                · -- 54 taken: E 1 s9 < roomL.getD s9 0
                  refine And.intro (fun cz58 => ?_) (fun cz58 => False.elim (absurd cz58 (by decide)))
                  refine And.intro (Wdo_87 hW) (Exists.intro _ (And.intro (Wdr_87_0 hW) ?_))
                  refine And.intro ⟨by omega, Nat.le_of_ble_eq_true rfl, Nat.le_refl _, Nat.le_refl _⟩ (And.intro (Wdo_88 hW) ?_)
                  refine D108 (B := B) (n := n) (i := nxF B n i) (D0 := D) hW hB2 hdj (by omega) hn (nxF_le hi) t2 tB t1 t3 (fun D1 K1 uT u9 u1 uD uK => ?_)
                  refine And.intro ⟨rfl, trivial, Nat.le_refl _, Nat.le_refl _⟩ ?_
                  have en := nv_nI (n := s9) (by omega)
                  exact hO _ _ s9 _ (by unfold opF; rw [hs9, en, if_neg (fun z => z.elim (fun q => q kk2) (fun q => q.elim (nI_neg1 (by omega)) cz12)), if_neg (fun z => absurd cz17 z.1), if_neg (fun z => absurd z.2 (Int32.not_lt.mpr cz35)), if_neg cz46, if_neg (Int32.not_le.mpr cz54)]) ⟨⟨uT, nxF_le hi, hn, (congrFun (uD 0 (by decide)) 5).trans h05, (congrFun (uD 0 (by decide)) 7).trans h07⟩, uD 4 (by decide), uD 5 (by decide), uK 3 (by decide), u9.trans t5⟩
                · -- 54 not: ¬ E 1 s9 < roomL.getD s9 0
                  refine And.intro (fun cz58 => False.elim (absurd cz58 (by decide))) (fun cz58 => ?_)
                  refine And.intro ⟨by omega, Nat.le_of_ble_eq_true rfl, Nat.le_refl _, Nat.le_refl _⟩ (And.intro (Wdo_87 hW) ?_)
                  refine D84 hW hB2 hdj ?_
                  refine And.intro rfl ?_
                  refine And.intro ⟨rfl, trivial, Nat.le_refl _, Nat.le_refl _⟩ ?_
                  have en := nv_nI (n := s9) (by omega)
                  exact hF _ _ 5 (plF B n i) (by unfold opF; rw [hs9, en, if_neg (fun z => z.elim (fun q => q kk2) (fun q => q.elim (nI_neg1 (by omega)) cz12)), if_neg (fun z => absurd cz17 z.1), if_neg (fun z => absurd z.2 (Int32.not_lt.mpr cz35)), if_neg cz46, if_pos (Int32.not_lt.mp cz54)]) rfl t5 t1
              · -- 46 not: nI s9 = nI 1
                have kz46 : s9 = 1 := keq (a := s9) (b := 1) rfl rfl (by omega) (by omega) cz46
                refine And.intro (Wdo_87 hW) (Exists.intro _ (And.intro hb4 ?_))
                refine And.intro (LWo_0 hB2) ?_
                rw [pp_20 (y := b) (by omega) (by decide)]
                refine And.intro (fun cz54 => ?_) (fun cz54 => ?_)
                · -- 54 taken: E 1 s9 < E 0 1
                  refine And.intro (fun cz58 => ?_) (fun cz58 => False.elim (absurd cz58 (by decide)))
                  refine And.intro (Wdo_87 hW) (Exists.intro _ (And.intro (Wdr_87_0 hW) ?_))
                  refine And.intro ⟨by omega, Nat.le_of_ble_eq_true rfl, Nat.le_refl _, Nat.le_refl _⟩ (And.intro (Wdo_88 hW) ?_)
                  refine D108 (B := B) (n := n) (i := nxF B n i) (D0 := D) hW hB2 hdj (by omega) hn (nxF_le hi) t2 tB t1 t3 (fun D1 K1 uT u9 u1 uD uK => ?_)
                  refine And.intro ⟨rfl, trivial, Nat.le_refl _, Nat.le_refl _⟩ ?_
                  have en := nv_nI (n := s9) (by omega)
                  exact hO _ _ s9 _ (by unfold opF; rw [hs9, en, if_neg (fun z => z.elim (fun q => q kk2) (fun q => q.elim (nI_neg1 (by omega)) cz12)), if_neg (fun z => absurd cz17 z.1), if_neg (fun z => absurd z.2 (Int32.not_lt.mpr cz35)), if_pos cz46, if_neg (Int32.not_le.mpr cz54)]) ⟨⟨uT, nxF_le hi, hn, (congrFun (uD 0 (by decide)) 5).trans h05, (congrFun (uD 0 (by decide)) 7).trans h07⟩, uD 4 (by decide), uD 5 (by decide), uK 3 (by decide), u9.trans t5⟩
                · -- 54 not: ¬ E 1 s9 < E 0 1
                  refine And.intro (fun cz58 => False.elim (absurd cz58 (by decide))) (fun cz58 => ?_)
                  refine And.intro ⟨by omega, Nat.le_of_ble_eq_true rfl, Nat.le_refl _, Nat.le_refl _⟩ (And.intro (Wdo_87 hW) ?_)
                  refine D84 hW hB2 hdj ?_
                  refine And.intro rfl ?_
                  refine And.intro ⟨rfl, trivial, Nat.le_refl _, Nat.le_refl _⟩ ?_
                  have en := nv_nI (n := s9) (by omega)
                  exact hF _ _ 5 (plF B n i) (by unfold opF; rw [hs9, en, if_neg (fun z => z.elim (fun q => q kk2) (fun q => q.elim (nI_neg1 (by omega)) cz12)), if_neg (fun z => absurd cz17 z.1), if_neg (fun z => absurd z.2 (Int32.not_lt.mpr cz35)), if_pos cz46, if_pos (Int32.not_lt.mp cz54)]) rfl t5 t1
            · -- 35 not: ¬ E 1 s9 ≤ 0
              refine And.intro (fun cz58 => False.elim (absurd cz58 (by decide))) (fun cz58 => ?_)
              refine And.intro ⟨by omega, Nat.le_of_ble_eq_true rfl, Nat.le_refl _, Nat.le_refl _⟩ (And.intro (Wdo_87 hW) ?_)
              refine D84 hW hB2 hdj ?_
              refine And.intro rfl ?_
              refine And.intro ⟨rfl, trivial, Nat.le_refl _, Nat.le_refl _⟩ ?_
              have en := nv_nI (n := s9) (by omega)
              exact hF _ _ 3 (plF B n i) (by unfold opF; rw [hs9, en, if_neg (fun z => z.elim (fun q => q kk2) (fun q => q.elim (nI_neg1 (by omega)) cz12)), if_neg (fun z => absurd cz17 z.1), if_pos ⟨(Or.inl cz26), Int32.not_le.mp cz35⟩]) rfl t5 t1
          · -- 26 not: ¬ nI s9 = 0
            have kz26 : s9 ≠ 0 := kne (a := s9) (b := 0) rfl rfl (by omega) (by omega) cz26
            refine And.intro (fun cz29 => ?_) (fun cz29 => ?_)
            · -- 29 taken: ¬ nI s9 = nI 3
              have kz29 : s9 ≠ 3 := kne (a := s9) (b := 3) rfl rfl (by omega) (by omega) cz29
              refine And.intro (Wdo_87 hW) (Exists.intro _ (And.intro hb4 ?_))
              refine And.intro (LWo_0 hB2) (Exists.intro _ (And.intro (LWr_0_4 hB2) ?_))
              refine And.intro (LWi_1 hB2 (vi rfl (by omega))) ?_
              rw [nI_clamp (show s9 < 2 ^ 31 by omega)]
              rw [pp_2 (y := b) (f := 1) (by omega) (by decide)]
              refine And.intro (fun cz46 => ?_) (fun cz46 => ?_)
              · -- 46 taken: ¬ nI s9 = nI 1
                have kz46 : s9 ≠ 1 := kne (a := s9) (b := 1) rfl rfl (by omega) (by omega) cz46
                refine And.intro ⟨rfl, vi rfl (by show _ < 13; omega)⟩ ?_
                rw [vc rfl (by omega)]
                refine And.intro (fun cz54 => ?_) (fun cz54 => ?_)
                · -- 54 taken: E 1 s9 < roomL.getD s9 0
                  refine And.intro (fun cz58 => ?_) (fun cz58 => False.elim (absurd cz58 (by decide)))
                  refine And.intro (Wdo_87 hW) (Exists.intro _ (And.intro (Wdr_87_0 hW) ?_))
                  refine And.intro ⟨by omega, Nat.le_of_ble_eq_true rfl, Nat.le_refl _, Nat.le_refl _⟩ (And.intro (Wdo_88 hW) ?_)
                  refine D108 (B := B) (n := n) (i := nxF B n i) (D0 := D) hW hB2 hdj (by omega) hn (nxF_le hi) t2 tB t1 t3 (fun D1 K1 uT u9 u1 uD uK => ?_)
                  refine And.intro ⟨rfl, trivial, Nat.le_refl _, Nat.le_refl _⟩ ?_
                  have en := nv_nI (n := s9) (by omega)
                  exact hO _ _ s9 _ (by unfold opF; rw [hs9, en, if_neg (fun z => z.elim (fun q => q kk2) (fun q => q.elim (nI_neg1 (by omega)) cz12)), if_neg (fun z => absurd cz17 z.1), if_neg (fun z => z.1.elim cz26 cz29), if_neg cz46, if_neg (Int32.not_le.mpr cz54)]) ⟨⟨uT, nxF_le hi, hn, (congrFun (uD 0 (by decide)) 5).trans h05, (congrFun (uD 0 (by decide)) 7).trans h07⟩, uD 4 (by decide), uD 5 (by decide), uK 3 (by decide), u9.trans t5⟩
                · -- 54 not: ¬ E 1 s9 < roomL.getD s9 0
                  refine And.intro (fun cz58 => False.elim (absurd cz58 (by decide))) (fun cz58 => ?_)
                  refine And.intro ⟨by omega, Nat.le_of_ble_eq_true rfl, Nat.le_refl _, Nat.le_refl _⟩ (And.intro (Wdo_87 hW) ?_)
                  refine D84 hW hB2 hdj ?_
                  refine And.intro rfl ?_
                  refine And.intro ⟨rfl, trivial, Nat.le_refl _, Nat.le_refl _⟩ ?_
                  have en := nv_nI (n := s9) (by omega)
                  exact hF _ _ 5 (plF B n i) (by unfold opF; rw [hs9, en, if_neg (fun z => z.elim (fun q => q kk2) (fun q => q.elim (nI_neg1 (by omega)) cz12)), if_neg (fun z => absurd cz17 z.1), if_neg (fun z => z.1.elim cz26 cz29), if_neg cz46, if_pos (Int32.not_lt.mp cz54)]) rfl t5 t1
              · -- 46 not: nI s9 = nI 1
                have kz46 : s9 = 1 := keq (a := s9) (b := 1) rfl rfl (by omega) (by omega) cz46
                refine And.intro (Wdo_87 hW) (Exists.intro _ (And.intro hb4 ?_))
                refine And.intro (LWo_0 hB2) ?_
                rw [pp_20 (y := b) (by omega) (by decide)]
                refine And.intro (fun cz54 => ?_) (fun cz54 => ?_)
                · -- 54 taken: E 1 s9 < E 0 1
                  refine And.intro (fun cz58 => ?_) (fun cz58 => False.elim (absurd cz58 (by decide)))
                  refine And.intro (Wdo_87 hW) (Exists.intro _ (And.intro (Wdr_87_0 hW) ?_))
                  refine And.intro ⟨by omega, Nat.le_of_ble_eq_true rfl, Nat.le_refl _, Nat.le_refl _⟩ (And.intro (Wdo_88 hW) ?_)
                  refine D108 (B := B) (n := n) (i := nxF B n i) (D0 := D) hW hB2 hdj (by omega) hn (nxF_le hi) t2 tB t1 t3 (fun D1 K1 uT u9 u1 uD uK => ?_)
                  refine And.intro ⟨rfl, trivial, Nat.le_refl _, Nat.le_refl _⟩ ?_
                  have en := nv_nI (n := s9) (by omega)
                  exact hO _ _ s9 _ (by unfold opF; rw [hs9, en, if_neg (fun z => z.elim (fun q => q kk2) (fun q => q.elim (nI_neg1 (by omega)) cz12)), if_neg (fun z => absurd cz17 z.1), if_neg (fun z => z.1.elim cz26 cz29), if_pos cz46, if_neg (Int32.not_le.mpr cz54)]) ⟨⟨uT, nxF_le hi, hn, (congrFun (uD 0 (by decide)) 5).trans h05, (congrFun (uD 0 (by decide)) 7).trans h07⟩, uD 4 (by decide), uD 5 (by decide), uK 3 (by decide), u9.trans t5⟩
                · -- 54 not: ¬ E 1 s9 < E 0 1
                  refine And.intro (fun cz58 => False.elim (absurd cz58 (by decide))) (fun cz58 => ?_)
                  refine And.intro ⟨by omega, Nat.le_of_ble_eq_true rfl, Nat.le_refl _, Nat.le_refl _⟩ (And.intro (Wdo_87 hW) ?_)
                  refine D84 hW hB2 hdj ?_
                  refine And.intro rfl ?_
                  refine And.intro ⟨rfl, trivial, Nat.le_refl _, Nat.le_refl _⟩ ?_
                  have en := nv_nI (n := s9) (by omega)
                  exact hF _ _ 5 (plF B n i) (by unfold opF; rw [hs9, en, if_neg (fun z => z.elim (fun q => q kk2) (fun q => q.elim (nI_neg1 (by omega)) cz12)), if_neg (fun z => absurd cz17 z.1), if_neg (fun z => z.1.elim cz26 cz29), if_pos cz46, if_pos (Int32.not_lt.mp cz54)]) rfl t5 t1
            · -- 29 not: nI s9 = nI 3
              have kz29 : s9 = 3 := keq (a := s9) (b := 3) rfl rfl (by omega) (by omega) cz29
              refine And.intro (Wdo_87 hW) (Exists.intro _ (And.intro hb4 ?_))
              refine And.intro (LWo_0 hB2) (Exists.intro _ (And.intro (LWr_0_4 hB2) ?_))
              refine And.intro (LWi_1 hB2 (vi rfl (by omega))) ?_
              rw [nI_clamp (show s9 < 2 ^ 31 by omega)]
              rw [pp_2 (y := b) (f := 1) (by omega) (by decide)]
              refine And.intro (fun cz35 => ?_) (fun cz35 => ?_)
              · -- 35 taken: E 1 s9 ≤ 0
                refine And.intro (Wdo_87 hW) (Exists.intro _ (And.intro hb4 ?_))
                refine And.intro (LWo_0 hB2) (Exists.intro _ (And.intro (LWr_0_4 hB2) ?_))
                refine And.intro (LWi_1 hB2 (vi rfl (by omega))) ?_
                rw [nI_clamp (show s9 < 2 ^ 31 by omega)]
                rw [pp_2 (y := b) (f := 1) (by omega) (by decide)]
                refine And.intro (fun cz46 => ?_) (fun cz46 => ?_)
                · -- 46 taken: ¬ nI s9 = nI 1
                  have kz46 : s9 ≠ 1 := kne (a := s9) (b := 1) rfl rfl (by omega) (by omega) cz46
                  refine And.intro ⟨rfl, vi rfl (by show _ < 13; omega)⟩ ?_
                  rw [vc rfl (by omega)]
                  refine And.intro (fun cz54 => ?_) (fun cz54 => ?_)
                  · -- 54 taken: E 1 s9 < roomL.getD s9 0
                    refine And.intro (fun cz58 => ?_) (fun cz58 => False.elim (absurd cz58 (by decide)))
                    refine And.intro (Wdo_87 hW) (Exists.intro _ (And.intro (Wdr_87_0 hW) ?_))
                    refine And.intro ⟨by omega, Nat.le_of_ble_eq_true rfl, Nat.le_refl _, Nat.le_refl _⟩ (And.intro (Wdo_88 hW) ?_)
                    refine D108 (B := B) (n := n) (i := nxF B n i) (D0 := D) hW hB2 hdj (by omega) hn (nxF_le hi) t2 tB t1 t3 (fun D1 K1 uT u9 u1 uD uK => ?_)
                    refine And.intro ⟨rfl, trivial, Nat.le_refl _, Nat.le_refl _⟩ ?_
                    have en := nv_nI (n := s9) (by omega)
                    exact hO _ _ s9 _ (by unfold opF; rw [hs9, en, if_neg (fun z => z.elim (fun q => q kk2) (fun q => q.elim (nI_neg1 (by omega)) cz12)), if_neg (fun z => absurd cz17 z.1), if_neg (fun z => absurd z.2 (Int32.not_lt.mpr cz35)), if_neg cz46, if_neg (Int32.not_le.mpr cz54)]) ⟨⟨uT, nxF_le hi, hn, (congrFun (uD 0 (by decide)) 5).trans h05, (congrFun (uD 0 (by decide)) 7).trans h07⟩, uD 4 (by decide), uD 5 (by decide), uK 3 (by decide), u9.trans t5⟩
                  · -- 54 not: ¬ E 1 s9 < roomL.getD s9 0
                    refine And.intro (fun cz58 => False.elim (absurd cz58 (by decide))) (fun cz58 => ?_)
                    refine And.intro ⟨by omega, Nat.le_of_ble_eq_true rfl, Nat.le_refl _, Nat.le_refl _⟩ (And.intro (Wdo_87 hW) ?_)
                    refine D84 hW hB2 hdj ?_
                    refine And.intro rfl ?_
                    refine And.intro ⟨rfl, trivial, Nat.le_refl _, Nat.le_refl _⟩ ?_
                    have en := nv_nI (n := s9) (by omega)
                    exact hF _ _ 5 (plF B n i) (by unfold opF; rw [hs9, en, if_neg (fun z => z.elim (fun q => q kk2) (fun q => q.elim (nI_neg1 (by omega)) cz12)), if_neg (fun z => absurd cz17 z.1), if_neg (fun z => absurd z.2 (Int32.not_lt.mpr cz35)), if_neg cz46, if_pos (Int32.not_lt.mp cz54)]) rfl t5 t1
                · -- 46 not: nI s9 = nI 1
                  have kz46 : s9 = 1 := keq (a := s9) (b := 1) rfl rfl (by omega) (by omega) cz46
                  refine And.intro (Wdo_87 hW) (Exists.intro _ (And.intro hb4 ?_))
                  refine And.intro (LWo_0 hB2) ?_
                  rw [pp_20 (y := b) (by omega) (by decide)]
                  refine And.intro (fun cz54 => ?_) (fun cz54 => ?_)
                  · -- 54 taken: E 1 s9 < E 0 1
                    refine And.intro (fun cz58 => ?_) (fun cz58 => False.elim (absurd cz58 (by decide)))
                    refine And.intro (Wdo_87 hW) (Exists.intro _ (And.intro (Wdr_87_0 hW) ?_))
                    refine And.intro ⟨by omega, Nat.le_of_ble_eq_true rfl, Nat.le_refl _, Nat.le_refl _⟩ (And.intro (Wdo_88 hW) ?_)
                    refine D108 (B := B) (n := n) (i := nxF B n i) (D0 := D) hW hB2 hdj (by omega) hn (nxF_le hi) t2 tB t1 t3 (fun D1 K1 uT u9 u1 uD uK => ?_)
                    refine And.intro ⟨rfl, trivial, Nat.le_refl _, Nat.le_refl _⟩ ?_
                    have en := nv_nI (n := s9) (by omega)
                    exact hO _ _ s9 _ (by unfold opF; rw [hs9, en, if_neg (fun z => z.elim (fun q => q kk2) (fun q => q.elim (nI_neg1 (by omega)) cz12)), if_neg (fun z => absurd cz17 z.1), if_neg (fun z => absurd z.2 (Int32.not_lt.mpr cz35)), if_pos cz46, if_neg (Int32.not_le.mpr cz54)]) ⟨⟨uT, nxF_le hi, hn, (congrFun (uD 0 (by decide)) 5).trans h05, (congrFun (uD 0 (by decide)) 7).trans h07⟩, uD 4 (by decide), uD 5 (by decide), uK 3 (by decide), u9.trans t5⟩
                  · -- 54 not: ¬ E 1 s9 < E 0 1
                    refine And.intro (fun cz58 => False.elim (absurd cz58 (by decide))) (fun cz58 => ?_)
                    refine And.intro ⟨by omega, Nat.le_of_ble_eq_true rfl, Nat.le_refl _, Nat.le_refl _⟩ (And.intro (Wdo_87 hW) ?_)
                    refine D84 hW hB2 hdj ?_
                    refine And.intro rfl ?_
                    refine And.intro ⟨rfl, trivial, Nat.le_refl _, Nat.le_refl _⟩ ?_
                    have en := nv_nI (n := s9) (by omega)
                    exact hF _ _ 5 (plF B n i) (by unfold opF; rw [hs9, en, if_neg (fun z => z.elim (fun q => q kk2) (fun q => q.elim (nI_neg1 (by omega)) cz12)), if_neg (fun z => absurd cz17 z.1), if_neg (fun z => absurd z.2 (Int32.not_lt.mpr cz35)), if_pos cz46, if_pos (Int32.not_lt.mp cz54)]) rfl t5 t1
              · -- 35 not: ¬ E 1 s9 ≤ 0
                refine And.intro (fun cz58 => False.elim (absurd cz58 (by decide))) (fun cz58 => ?_)
                refine And.intro ⟨by omega, Nat.le_of_ble_eq_true rfl, Nat.le_refl _, Nat.le_refl _⟩ (And.intro (Wdo_87 hW) ?_)
                refine D84 hW hB2 hdj ?_
                refine And.intro rfl ?_
                refine And.intro ⟨rfl, trivial, Nat.le_refl _, Nat.le_refl _⟩ ?_
                have en := nv_nI (n := s9) (by omega)
                exact hF _ _ 3 (plF B n i) (by unfold opF; rw [hs9, en, if_neg (fun z => z.elim (fun q => q kk2) (fun q => q.elim (nI_neg1 (by omega)) cz12)), if_neg (fun z => absurd cz17 z.1), if_pos ⟨(Or.inr cz29), Int32.not_le.mp cz35⟩]) rfl t5 t1
        · -- 17 not: ¬ nI s9 = 0
          have kz17 : s9 ≠ 0 := kne (a := s9) (b := 0) rfl rfl (by omega) (by omega) cz17
          refine And.intro (Wdo_87 hW) (Exists.intro _ (And.intro hb4 ?_))
          refine And.intro ⟨by omega, Nat.le_of_ble_eq_true rfl, Nat.le_refl _, Nat.le_refl _⟩ (And.intro (LWo_0 hB2) ?_)
          refine C21 (m := (pp m 87 6 D K b 19 E L)) hB2 ?_
          rw [pp_2 (y := b) (f := 1) (by omega) (by decide)]
          refine And.intro (fun cz21 => ?_) (fun cz21 => ?_)
          · -- 21 taken: ¬ bi (0 < E 1 0) = 0
            refine And.intro (fun cz26 => ?_) (fun cz26 => ?_)
            · -- 26 taken: nI s9 = 0
              have kz26 : s9 = 0 := keq (a := s9) (b := 0) rfl rfl (by omega) (by omega) cz26
              refine And.intro (Wdo_87 hW) (Exists.intro _ (And.intro hb4 ?_))
              refine And.intro (LWo_0 hB2) (Exists.intro _ (And.intro (LWr_0_4 hB2) ?_))
              refine And.intro (LWi_1 hB2 (vi rfl (by omega))) ?_
              rw [nI_clamp (show s9 < 2 ^ 31 by omega)]
              rw [pp_2 (y := b) (f := 1) (by omega) (by decide)]
              refine And.intro (fun cz35 => ?_) (fun cz35 => ?_)
              · -- 35 taken: E 1 s9 ≤ 0
                refine And.intro (Wdo_87 hW) (Exists.intro _ (And.intro hb4 ?_))
                refine And.intro (LWo_0 hB2) (Exists.intro _ (And.intro (LWr_0_4 hB2) ?_))
                refine And.intro (LWi_1 hB2 (vi rfl (by omega))) ?_
                rw [nI_clamp (show s9 < 2 ^ 31 by omega)]
                rw [pp_2 (y := b) (f := 1) (by omega) (by decide)]
                refine And.intro (fun cz46 => ?_) (fun cz46 => ?_)
                · -- 46 taken: ¬ nI s9 = nI 1
                  have kz46 : s9 ≠ 1 := kne (a := s9) (b := 1) rfl rfl (by omega) (by omega) cz46
                  refine And.intro ⟨rfl, vi rfl (by show _ < 13; omega)⟩ ?_
                  rw [vc rfl (by omega)]
                  refine And.intro (fun cz54 => ?_) (fun cz54 => ?_)
                  · -- 54 taken: E 1 s9 < roomL.getD s9 0
                    refine And.intro (fun cz58 => ?_) (fun cz58 => False.elim (absurd cz58 (by decide)))
                    refine And.intro (Wdo_87 hW) (Exists.intro _ (And.intro (Wdr_87_0 hW) ?_))
                    refine And.intro ⟨by omega, Nat.le_of_ble_eq_true rfl, Nat.le_refl _, Nat.le_refl _⟩ (And.intro (Wdo_88 hW) ?_)
                    refine D108 (B := B) (n := n) (i := nxF B n i) (D0 := D) hW hB2 hdj (by omega) hn (nxF_le hi) t2 tB t1 t3 (fun D1 K1 uT u9 u1 uD uK => ?_)
                    refine And.intro ⟨rfl, trivial, Nat.le_refl _, Nat.le_refl _⟩ ?_
                    have en := nv_nI (n := s9) (by omega)
                    exact hO _ _ s9 _ (by unfold opF; rw [hs9, en, if_neg (fun z => z.elim (fun q => q kk2) (fun q => q.elim (nI_neg1 (by omega)) cz12)), if_neg (fun z => z.2 (bi_ne0.mp cz21)), if_neg (fun z => absurd z.2 (Int32.not_lt.mpr cz35)), if_neg cz46, if_neg (Int32.not_le.mpr cz54)]) ⟨⟨uT, nxF_le hi, hn, (congrFun (uD 0 (by decide)) 5).trans h05, (congrFun (uD 0 (by decide)) 7).trans h07⟩, uD 4 (by decide), uD 5 (by decide), uK 3 (by decide), u9.trans t5⟩
                  · -- 54 not: ¬ E 1 s9 < roomL.getD s9 0
                    refine And.intro (fun cz58 => False.elim (absurd cz58 (by decide))) (fun cz58 => ?_)
                    refine And.intro ⟨by omega, Nat.le_of_ble_eq_true rfl, Nat.le_refl _, Nat.le_refl _⟩ (And.intro (Wdo_87 hW) ?_)
                    refine D84 hW hB2 hdj ?_
                    refine And.intro rfl ?_
                    refine And.intro ⟨rfl, trivial, Nat.le_refl _, Nat.le_refl _⟩ ?_
                    have en := nv_nI (n := s9) (by omega)
                    exact hF _ _ 5 (plF B n i) (by unfold opF; rw [hs9, en, if_neg (fun z => z.elim (fun q => q kk2) (fun q => q.elim (nI_neg1 (by omega)) cz12)), if_neg (fun z => z.2 (bi_ne0.mp cz21)), if_neg (fun z => absurd z.2 (Int32.not_lt.mpr cz35)), if_neg cz46, if_pos (Int32.not_lt.mp cz54)]) rfl t5 t1
                · -- 46 not: nI s9 = nI 1
                  have kz46 : s9 = 1 := keq (a := s9) (b := 1) rfl rfl (by omega) (by omega) cz46
                  refine And.intro (Wdo_87 hW) (Exists.intro _ (And.intro hb4 ?_))
                  refine And.intro (LWo_0 hB2) ?_
                  rw [pp_20 (y := b) (by omega) (by decide)]
                  refine And.intro (fun cz54 => ?_) (fun cz54 => ?_)
                  · -- 54 taken: E 1 s9 < E 0 1
                    refine And.intro (fun cz58 => ?_) (fun cz58 => False.elim (absurd cz58 (by decide)))
                    refine And.intro (Wdo_87 hW) (Exists.intro _ (And.intro (Wdr_87_0 hW) ?_))
                    refine And.intro ⟨by omega, Nat.le_of_ble_eq_true rfl, Nat.le_refl _, Nat.le_refl _⟩ (And.intro (Wdo_88 hW) ?_)
                    refine D108 (B := B) (n := n) (i := nxF B n i) (D0 := D) hW hB2 hdj (by omega) hn (nxF_le hi) t2 tB t1 t3 (fun D1 K1 uT u9 u1 uD uK => ?_)
                    refine And.intro ⟨rfl, trivial, Nat.le_refl _, Nat.le_refl _⟩ ?_
                    have en := nv_nI (n := s9) (by omega)
                    exact hO _ _ s9 _ (by unfold opF; rw [hs9, en, if_neg (fun z => z.elim (fun q => q kk2) (fun q => q.elim (nI_neg1 (by omega)) cz12)), if_neg (fun z => z.2 (bi_ne0.mp cz21)), if_neg (fun z => absurd z.2 (Int32.not_lt.mpr cz35)), if_pos cz46, if_neg (Int32.not_le.mpr cz54)]) ⟨⟨uT, nxF_le hi, hn, (congrFun (uD 0 (by decide)) 5).trans h05, (congrFun (uD 0 (by decide)) 7).trans h07⟩, uD 4 (by decide), uD 5 (by decide), uK 3 (by decide), u9.trans t5⟩
                  · -- 54 not: ¬ E 1 s9 < E 0 1
                    refine And.intro (fun cz58 => False.elim (absurd cz58 (by decide))) (fun cz58 => ?_)
                    refine And.intro ⟨by omega, Nat.le_of_ble_eq_true rfl, Nat.le_refl _, Nat.le_refl _⟩ (And.intro (Wdo_87 hW) ?_)
                    refine D84 hW hB2 hdj ?_
                    refine And.intro rfl ?_
                    refine And.intro ⟨rfl, trivial, Nat.le_refl _, Nat.le_refl _⟩ ?_
                    have en := nv_nI (n := s9) (by omega)
                    exact hF _ _ 5 (plF B n i) (by unfold opF; rw [hs9, en, if_neg (fun z => z.elim (fun q => q kk2) (fun q => q.elim (nI_neg1 (by omega)) cz12)), if_neg (fun z => z.2 (bi_ne0.mp cz21)), if_neg (fun z => absurd z.2 (Int32.not_lt.mpr cz35)), if_pos cz46, if_pos (Int32.not_lt.mp cz54)]) rfl t5 t1
              · -- 35 not: ¬ E 1 s9 ≤ 0
                refine And.intro (fun cz58 => False.elim (absurd cz58 (by decide))) (fun cz58 => ?_)
                refine And.intro ⟨by omega, Nat.le_of_ble_eq_true rfl, Nat.le_refl _, Nat.le_refl _⟩ (And.intro (Wdo_87 hW) ?_)
                refine D84 hW hB2 hdj ?_
                refine And.intro rfl ?_
                refine And.intro ⟨rfl, trivial, Nat.le_refl _, Nat.le_refl _⟩ ?_
                have en := nv_nI (n := s9) (by omega)
                exact hF _ _ 3 (plF B n i) (by unfold opF; rw [hs9, en, if_neg (fun z => z.elim (fun q => q kk2) (fun q => q.elim (nI_neg1 (by omega)) cz12)), if_neg (fun z => z.2 (bi_ne0.mp cz21)), if_pos ⟨(Or.inl cz26), Int32.not_le.mp cz35⟩]) rfl t5 t1
            · -- 26 not: ¬ nI s9 = 0
              have kz26 : s9 ≠ 0 := kne (a := s9) (b := 0) rfl rfl (by omega) (by omega) cz26
              refine And.intro (fun cz29 => ?_) (fun cz29 => ?_)
              · -- 29 taken: ¬ nI s9 = nI 3
                have kz29 : s9 ≠ 3 := kne (a := s9) (b := 3) rfl rfl (by omega) (by omega) cz29
                refine And.intro (Wdo_87 hW) (Exists.intro _ (And.intro hb4 ?_))
                refine And.intro (LWo_0 hB2) (Exists.intro _ (And.intro (LWr_0_4 hB2) ?_))
                refine And.intro (LWi_1 hB2 (vi rfl (by omega))) ?_
                rw [nI_clamp (show s9 < 2 ^ 31 by omega)]
                rw [pp_2 (y := b) (f := 1) (by omega) (by decide)]
                refine And.intro (fun cz46 => ?_) (fun cz46 => ?_)
                · -- 46 taken: ¬ nI s9 = nI 1
                  have kz46 : s9 ≠ 1 := kne (a := s9) (b := 1) rfl rfl (by omega) (by omega) cz46
                  refine And.intro ⟨rfl, vi rfl (by show _ < 13; omega)⟩ ?_
                  rw [vc rfl (by omega)]
                  refine And.intro (fun cz54 => ?_) (fun cz54 => ?_)
                  · -- 54 taken: E 1 s9 < roomL.getD s9 0
                    refine And.intro (fun cz58 => ?_) (fun cz58 => False.elim (absurd cz58 (by decide)))
                    refine And.intro (Wdo_87 hW) (Exists.intro _ (And.intro (Wdr_87_0 hW) ?_))
                    refine And.intro ⟨by omega, Nat.le_of_ble_eq_true rfl, Nat.le_refl _, Nat.le_refl _⟩ (And.intro (Wdo_88 hW) ?_)
                    refine D108 (B := B) (n := n) (i := nxF B n i) (D0 := D) hW hB2 hdj (by omega) hn (nxF_le hi) t2 tB t1 t3 (fun D1 K1 uT u9 u1 uD uK => ?_)
                    refine And.intro ⟨rfl, trivial, Nat.le_refl _, Nat.le_refl _⟩ ?_
                    have en := nv_nI (n := s9) (by omega)
                    exact hO _ _ s9 _ (by unfold opF; rw [hs9, en, if_neg (fun z => z.elim (fun q => q kk2) (fun q => q.elim (nI_neg1 (by omega)) cz12)), if_neg (fun z => z.2 (bi_ne0.mp cz21)), if_neg (fun z => z.1.elim cz26 cz29), if_neg cz46, if_neg (Int32.not_le.mpr cz54)]) ⟨⟨uT, nxF_le hi, hn, (congrFun (uD 0 (by decide)) 5).trans h05, (congrFun (uD 0 (by decide)) 7).trans h07⟩, uD 4 (by decide), uD 5 (by decide), uK 3 (by decide), u9.trans t5⟩
                  · -- 54 not: ¬ E 1 s9 < roomL.getD s9 0
                    refine And.intro (fun cz58 => False.elim (absurd cz58 (by decide))) (fun cz58 => ?_)
                    refine And.intro ⟨by omega, Nat.le_of_ble_eq_true rfl, Nat.le_refl _, Nat.le_refl _⟩ (And.intro (Wdo_87 hW) ?_)
                    refine D84 hW hB2 hdj ?_
                    refine And.intro rfl ?_
                    refine And.intro ⟨rfl, trivial, Nat.le_refl _, Nat.le_refl _⟩ ?_
                    have en := nv_nI (n := s9) (by omega)
                    exact hF _ _ 5 (plF B n i) (by unfold opF; rw [hs9, en, if_neg (fun z => z.elim (fun q => q kk2) (fun q => q.elim (nI_neg1 (by omega)) cz12)), if_neg (fun z => z.2 (bi_ne0.mp cz21)), if_neg (fun z => z.1.elim cz26 cz29), if_neg cz46, if_pos (Int32.not_lt.mp cz54)]) rfl t5 t1
                · -- 46 not: nI s9 = nI 1
                  have kz46 : s9 = 1 := keq (a := s9) (b := 1) rfl rfl (by omega) (by omega) cz46
                  refine And.intro (Wdo_87 hW) (Exists.intro _ (And.intro hb4 ?_))
                  refine And.intro (LWo_0 hB2) ?_
                  rw [pp_20 (y := b) (by omega) (by decide)]
                  refine And.intro (fun cz54 => ?_) (fun cz54 => ?_)
                  · -- 54 taken: E 1 s9 < E 0 1
                    refine And.intro (fun cz58 => ?_) (fun cz58 => False.elim (absurd cz58 (by decide)))
                    refine And.intro (Wdo_87 hW) (Exists.intro _ (And.intro (Wdr_87_0 hW) ?_))
                    refine And.intro ⟨by omega, Nat.le_of_ble_eq_true rfl, Nat.le_refl _, Nat.le_refl _⟩ (And.intro (Wdo_88 hW) ?_)
                    refine D108 (B := B) (n := n) (i := nxF B n i) (D0 := D) hW hB2 hdj (by omega) hn (nxF_le hi) t2 tB t1 t3 (fun D1 K1 uT u9 u1 uD uK => ?_)
                    refine And.intro ⟨rfl, trivial, Nat.le_refl _, Nat.le_refl _⟩ ?_
                    have en := nv_nI (n := s9) (by omega)
                    exact hO _ _ s9 _ (by unfold opF; rw [hs9, en, if_neg (fun z => z.elim (fun q => q kk2) (fun q => q.elim (nI_neg1 (by omega)) cz12)), if_neg (fun z => z.2 (bi_ne0.mp cz21)), if_neg (fun z => z.1.elim cz26 cz29), if_pos cz46, if_neg (Int32.not_le.mpr cz54)]) ⟨⟨uT, nxF_le hi, hn, (congrFun (uD 0 (by decide)) 5).trans h05, (congrFun (uD 0 (by decide)) 7).trans h07⟩, uD 4 (by decide), uD 5 (by decide), uK 3 (by decide), u9.trans t5⟩
                  · -- 54 not: ¬ E 1 s9 < E 0 1
                    refine And.intro (fun cz58 => False.elim (absurd cz58 (by decide))) (fun cz58 => ?_)
                    refine And.intro ⟨by omega, Nat.le_of_ble_eq_true rfl, Nat.le_refl _, Nat.le_refl _⟩ (And.intro (Wdo_87 hW) ?_)
                    refine D84 hW hB2 hdj ?_
                    refine And.intro rfl ?_
                    refine And.intro ⟨rfl, trivial, Nat.le_refl _, Nat.le_refl _⟩ ?_
                    have en := nv_nI (n := s9) (by omega)
                    exact hF _ _ 5 (plF B n i) (by unfold opF; rw [hs9, en, if_neg (fun z => z.elim (fun q => q kk2) (fun q => q.elim (nI_neg1 (by omega)) cz12)), if_neg (fun z => z.2 (bi_ne0.mp cz21)), if_neg (fun z => z.1.elim cz26 cz29), if_pos cz46, if_pos (Int32.not_lt.mp cz54)]) rfl t5 t1
              · -- 29 not: nI s9 = nI 3
                have kz29 : s9 = 3 := keq (a := s9) (b := 3) rfl rfl (by omega) (by omega) cz29
                refine And.intro (Wdo_87 hW) (Exists.intro _ (And.intro hb4 ?_))
                refine And.intro (LWo_0 hB2) (Exists.intro _ (And.intro (LWr_0_4 hB2) ?_))
                refine And.intro (LWi_1 hB2 (vi rfl (by omega))) ?_
                rw [nI_clamp (show s9 < 2 ^ 31 by omega)]
                rw [pp_2 (y := b) (f := 1) (by omega) (by decide)]
                refine And.intro (fun cz35 => ?_) (fun cz35 => ?_)
                · -- 35 taken: E 1 s9 ≤ 0
                  refine And.intro (Wdo_87 hW) (Exists.intro _ (And.intro hb4 ?_))
                  refine And.intro (LWo_0 hB2) (Exists.intro _ (And.intro (LWr_0_4 hB2) ?_))
                  refine And.intro (LWi_1 hB2 (vi rfl (by omega))) ?_
                  rw [nI_clamp (show s9 < 2 ^ 31 by omega)]
                  rw [pp_2 (y := b) (f := 1) (by omega) (by decide)]
                  refine And.intro (fun cz46 => ?_) (fun cz46 => ?_)
                  · -- 46 taken: ¬ nI s9 = nI 1
                    have kz46 : s9 ≠ 1 := kne (a := s9) (b := 1) rfl rfl (by omega) (by omega) cz46
                    refine And.intro ⟨rfl, vi rfl (by show _ < 13; omega)⟩ ?_
                    rw [vc rfl (by omega)]
                    refine And.intro (fun cz54 => ?_) (fun cz54 => ?_)
                    · -- 54 taken: E 1 s9 < roomL.getD s9 0
                      refine And.intro (fun cz58 => ?_) (fun cz58 => False.elim (absurd cz58 (by decide)))
                      refine And.intro (Wdo_87 hW) (Exists.intro _ (And.intro (Wdr_87_0 hW) ?_))
                      refine And.intro ⟨by omega, Nat.le_of_ble_eq_true rfl, Nat.le_refl _, Nat.le_refl _⟩ (And.intro (Wdo_88 hW) ?_)
                      refine D108 (B := B) (n := n) (i := nxF B n i) (D0 := D) hW hB2 hdj (by omega) hn (nxF_le hi) t2 tB t1 t3 (fun D1 K1 uT u9 u1 uD uK => ?_)
                      refine And.intro ⟨rfl, trivial, Nat.le_refl _, Nat.le_refl _⟩ ?_
                      have en := nv_nI (n := s9) (by omega)
                      exact hO _ _ s9 _ (by unfold opF; rw [hs9, en, if_neg (fun z => z.elim (fun q => q kk2) (fun q => q.elim (nI_neg1 (by omega)) cz12)), if_neg (fun z => z.2 (bi_ne0.mp cz21)), if_neg (fun z => absurd z.2 (Int32.not_lt.mpr cz35)), if_neg cz46, if_neg (Int32.not_le.mpr cz54)]) ⟨⟨uT, nxF_le hi, hn, (congrFun (uD 0 (by decide)) 5).trans h05, (congrFun (uD 0 (by decide)) 7).trans h07⟩, uD 4 (by decide), uD 5 (by decide), uK 3 (by decide), u9.trans t5⟩
                    · -- 54 not: ¬ E 1 s9 < roomL.getD s9 0
                      refine And.intro (fun cz58 => False.elim (absurd cz58 (by decide))) (fun cz58 => ?_)
                      refine And.intro ⟨by omega, Nat.le_of_ble_eq_true rfl, Nat.le_refl _, Nat.le_refl _⟩ (And.intro (Wdo_87 hW) ?_)
                      refine D84 hW hB2 hdj ?_
                      refine And.intro rfl ?_
                      refine And.intro ⟨rfl, trivial, Nat.le_refl _, Nat.le_refl _⟩ ?_
                      have en := nv_nI (n := s9) (by omega)
                      exact hF _ _ 5 (plF B n i) (by unfold opF; rw [hs9, en, if_neg (fun z => z.elim (fun q => q kk2) (fun q => q.elim (nI_neg1 (by omega)) cz12)), if_neg (fun z => z.2 (bi_ne0.mp cz21)), if_neg (fun z => absurd z.2 (Int32.not_lt.mpr cz35)), if_neg cz46, if_pos (Int32.not_lt.mp cz54)]) rfl t5 t1
                  · -- 46 not: nI s9 = nI 1
                    have kz46 : s9 = 1 := keq (a := s9) (b := 1) rfl rfl (by omega) (by omega) cz46
                    refine And.intro (Wdo_87 hW) (Exists.intro _ (And.intro hb4 ?_))
                    refine And.intro (LWo_0 hB2) ?_
                    rw [pp_20 (y := b) (by omega) (by decide)]
                    refine And.intro (fun cz54 => ?_) (fun cz54 => ?_)
                    · -- 54 taken: E 1 s9 < E 0 1
                      refine And.intro (fun cz58 => ?_) (fun cz58 => False.elim (absurd cz58 (by decide)))
                      refine And.intro (Wdo_87 hW) (Exists.intro _ (And.intro (Wdr_87_0 hW) ?_))
                      refine And.intro ⟨by omega, Nat.le_of_ble_eq_true rfl, Nat.le_refl _, Nat.le_refl _⟩ (And.intro (Wdo_88 hW) ?_)
                      refine D108 (B := B) (n := n) (i := nxF B n i) (D0 := D) hW hB2 hdj (by omega) hn (nxF_le hi) t2 tB t1 t3 (fun D1 K1 uT u9 u1 uD uK => ?_)
                      refine And.intro ⟨rfl, trivial, Nat.le_refl _, Nat.le_refl _⟩ ?_
                      have en := nv_nI (n := s9) (by omega)
                      exact hO _ _ s9 _ (by unfold opF; rw [hs9, en, if_neg (fun z => z.elim (fun q => q kk2) (fun q => q.elim (nI_neg1 (by omega)) cz12)), if_neg (fun z => z.2 (bi_ne0.mp cz21)), if_neg (fun z => absurd z.2 (Int32.not_lt.mpr cz35)), if_pos cz46, if_neg (Int32.not_le.mpr cz54)]) ⟨⟨uT, nxF_le hi, hn, (congrFun (uD 0 (by decide)) 5).trans h05, (congrFun (uD 0 (by decide)) 7).trans h07⟩, uD 4 (by decide), uD 5 (by decide), uK 3 (by decide), u9.trans t5⟩
                    · -- 54 not: ¬ E 1 s9 < E 0 1
                      refine And.intro (fun cz58 => False.elim (absurd cz58 (by decide))) (fun cz58 => ?_)
                      refine And.intro ⟨by omega, Nat.le_of_ble_eq_true rfl, Nat.le_refl _, Nat.le_refl _⟩ (And.intro (Wdo_87 hW) ?_)
                      refine D84 hW hB2 hdj ?_
                      refine And.intro rfl ?_
                      refine And.intro ⟨rfl, trivial, Nat.le_refl _, Nat.le_refl _⟩ ?_
                      have en := nv_nI (n := s9) (by omega)
                      exact hF _ _ 5 (plF B n i) (by unfold opF; rw [hs9, en, if_neg (fun z => z.elim (fun q => q kk2) (fun q => q.elim (nI_neg1 (by omega)) cz12)), if_neg (fun z => z.2 (bi_ne0.mp cz21)), if_neg (fun z => absurd z.2 (Int32.not_lt.mpr cz35)), if_pos cz46, if_pos (Int32.not_lt.mp cz54)]) rfl t5 t1
                · -- 35 not: ¬ E 1 s9 ≤ 0
                  refine And.intro (fun cz58 => False.elim (absurd cz58 (by decide))) (fun cz58 => ?_)
                  refine And.intro ⟨by omega, Nat.le_of_ble_eq_true rfl, Nat.le_refl _, Nat.le_refl _⟩ (And.intro (Wdo_87 hW) ?_)
                  refine D84 hW hB2 hdj ?_
                  refine And.intro rfl ?_
                  refine And.intro ⟨rfl, trivial, Nat.le_refl _, Nat.le_refl _⟩ ?_
                  have en := nv_nI (n := s9) (by omega)
                  exact hF _ _ 3 (plF B n i) (by unfold opF; rw [hs9, en, if_neg (fun z => z.elim (fun q => q kk2) (fun q => q.elim (nI_neg1 (by omega)) cz12)), if_neg (fun z => z.2 (bi_ne0.mp cz21)), if_pos ⟨(Or.inr cz29), Int32.not_le.mp cz35⟩]) rfl t5 t1
          · -- 21 not: bi (0 < E 1 0) = 0
            refine And.intro (fun cz58 => False.elim (absurd cz58 (by decide))) (fun cz58 => ?_)
            refine And.intro ⟨by omega, Nat.le_of_ble_eq_true rfl, Nat.le_refl _, Nat.le_refl _⟩ (And.intro (Wdo_87 hW) ?_)
            refine D84 hW hB2 hdj ?_
            refine And.intro rfl ?_
            refine And.intro ⟨rfl, trivial, Nat.le_refl _, Nat.le_refl _⟩ ?_
            have en := nv_nI (n := s9) (by omega)
            exact hF _ _ 6 (plF B n i) (by unfold opF; rw [hs9, en, if_neg (fun z => z.elim (fun q => q kk2) (fun q => q.elim (nI_neg1 (by omega)) cz12)), if_pos ⟨cz17, bi_eq0.mp cz21⟩]) rfl t5 t1
      · -- 12 not: nI s9 = nI 13
        have kz12 : s9 = 13 := keq (a := s9) (b := 13) rfl rfl (by omega) (by omega) cz12
        refine And.intro (fun cz58 => False.elim (absurd cz58 (by decide))) (fun cz58 => ?_)
        refine And.intro ⟨by omega, Nat.le_of_ble_eq_true rfl, Nat.le_refl _, Nat.le_refl _⟩ (And.intro (Wdo_87 hW) ?_)
        refine D84 hW hB2 hdj ?_
        refine And.intro rfl ?_
        refine And.intro ⟨rfl, trivial, Nat.le_refl _, Nat.le_refl _⟩ ?_
        have en := nv_nI (n := s9) (by omega)
        exact hF _ _ 1 (plF B n i) (by unfold opF; rw [hs9, if_pos (Or.inr (Or.inr cz12))]) rfl t5 t1
abbrev laP (E : Nat → Nat → Int32) : Prop := E 1 1 < E 0 1 ∨ E 1 2 = 0 ∨ E 1 4 = 0
theorem D58 {d : Nat} {m : Mm} {Q : Option Value → Mm → Prop} {b : Nat} {E : Nat → Nat → Int32} {L : Nat → Nat → Int64} (hW : Wd m.2.2) (hB2 : LW m.2.2 b) (hdj : b + 19 ≤ 87 ∨ 87 + 6 ≤ b) {D : Nat → Nat → Int32} {K : Nat → Nat → Int64} (hd : 1 ≤ d) (hb4 : va_rf (mR m 87 4) = .ref b) (hF : laP E → Q (some (.int (nI 0))) (pp m 87 6 (ud (ud D 0 7 (nI 6)) 0 8 (D 1 5)) K b 19 E L)) (hO : ¬ laP E → Q (some (.int (nI 1))) (pp m 87 6 D K b 19 E L)) : Cc d 0 0 58 [.ref 87] (pp m 87 6 D K b 19 E L) Q := by
  refine ent (n := 82) z58 (by decide) rfl (by decide) (Nat.le_of_ble_eq_true rfl) (fun sc => ?_)
  refine And.intro (Wdo_87 hW) (Exists.intro _ (And.intro hb4 ?_))
  refine And.intro (LWo_0 hB2) (Exists.intro _ (And.intro (LWr_0_4 hB2) ?_))
  refine And.intro (LWi_1 hB2 (vi rfl (by omega))) ?_
  rw [nI_clamp (show 1 < 2 ^ 31 by omega)]
  rw [pp_2 (y := b) (f := 1) (by omega) (by decide)]
  refine And.intro (Wdo_87 hW) (Exists.intro _ (And.intro hb4 ?_))
  refine And.intro (LWo_0 hB2) ?_
  rw [pp_20 (y := b) (by omega) (by decide)]
  refine And.intro (fun cz8 => ?_) (fun cz8 => ?_)
  · -- 8 taken: E 1 1 < E 0 1
    refine And.intro (fun cz22 => False.elim (absurd cz22 (by decide))) (fun cz22 => ?_)
    refine And.intro ⟨by omega, Nat.le_of_ble_eq_true rfl, Nat.le_refl _, Nat.le_refl _⟩ (And.intro (Wdo_87 hW) ?_)
    refine D84 hW hB2 hdj ?_
    refine And.intro (fun cz26 => ?_) (fun cz26 => False.elim (absurd cz26 (by decide)))
    refine And.intro ⟨rfl, Or.inl rfl, Nat.le_refl _, Nat.le_refl _⟩ ?_
    exact hF (Or.inl cz8)
  · -- 8 not: ¬ E 1 1 < E 0 1
    refine And.intro (Wdo_87 hW) (Exists.intro _ (And.intro hb4 ?_))
    refine And.intro ⟨by omega, Nat.le_of_ble_eq_true rfl, Nat.le_refl _, Nat.le_refl _⟩ (And.intro (LWo_0 hB2) ?_)
    refine C22 (m := (pp m 87 6 D K b 19 E L)) hB2 ?_
    rw [pp_2 (y := b) (f := 1) (by omega) (by decide)]
    refine And.intro (fun cz12 => ?_) (fun cz12 => ?_)
    · -- 12 taken: E 1 2 = 0
      refine And.intro (fun cz22 => False.elim (absurd cz22 (by decide))) (fun cz22 => ?_)
      refine And.intro ⟨by omega, Nat.le_of_ble_eq_true rfl, Nat.le_refl _, Nat.le_refl _⟩ (And.intro (Wdo_87 hW) ?_)
      refine D84 hW hB2 hdj ?_
      refine And.intro (fun cz26 => ?_) (fun cz26 => False.elim (absurd cz26 (by decide)))
      refine And.intro ⟨rfl, Or.inl rfl, Nat.le_refl _, Nat.le_refl _⟩ ?_
      exact hF (Or.inr (Or.inl cz12))
    · -- 12 not: ¬ E 1 2 = 0
      refine And.intro (Wdo_87 hW) (Exists.intro _ (And.intro hb4 ?_))
      refine And.intro ⟨by omega, Nat.le_of_ble_eq_true rfl, Nat.le_refl _, Nat.le_refl _⟩ (And.intro (LWo_0 hB2) ?_)
      refine C23 (m := (pp m 87 6 D K b 19 E L)) hB2 ?_
      rw [pp_2 (y := b) (f := 1) (by omega) (by decide)]
      refine And.intro (fun cz16 => ?_) (fun cz16 => ?_)
      · -- 16 taken: ¬ E 1 4 = 0
        refine And.intro (fun cz22 => ?_) (fun cz22 => False.elim (absurd cz22 (by decide)))
        refine And.intro ⟨rfl, Or.inr rfl, Nat.le_refl _, Nat.le_refl _⟩ ?_
        exact hO (fun z => z.elim cz8 (fun q => q.elim cz12 cz16))
      · -- 16 not: E 1 4 = 0
        refine And.intro (fun cz22 => False.elim (absurd cz22 (by decide))) (fun cz22 => ?_)
        refine And.intro ⟨by omega, Nat.le_of_ble_eq_true rfl, Nat.le_refl _, Nat.le_refl _⟩ (And.intro (Wdo_87 hW) ?_)
        refine D84 hW hB2 hdj ?_
        refine And.intro (fun cz26 => ?_) (fun cz26 => False.elim (absurd cz26 (by decide)))
        refine And.intro ⟨rfl, Or.inl rfl, Nat.le_refl _, Nat.le_refl _⟩ ?_
        exact hF (Or.inr (Or.inr cz16))
