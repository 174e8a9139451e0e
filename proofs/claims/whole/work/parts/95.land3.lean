theorem C50 {d : Nat} {m : Mm} {Q : Option Value → Mm → Prop} (hW : Wd m.2.2) (hQ : Q none (uI (uI m 24 3 (nI 0)) 24 4 (nI 0))) : Cc d 0 0 50 [.ref 24] m Q := by
  refine ent (n := 34) z50 (by decide) rfl (by decide) (Nat.le_of_ble_eq_true rfl) (fun sc => ?_)
  refine And.intro (Wdo_24 hW) ?_
  refine And.intro (Wdo_24 hW) ?_
  refine And.intro ⟨rfl, rfl, Nat.le_refl _, Nat.le_refl _⟩ ?_
  exact hQ
theorem C91 {d : Nat} {m : Mm} {Q : Option Value → Mm → Prop} (hW : Wd m.2.2) (hQ : Q none (uI m 139 4 (nI 0))) : Cc d 0 0 91 [.ref 139] m Q := by
  refine ent (n := 28) z91 (by decide) rfl (by decide) (Nat.le_of_ble_eq_true rfl) (fun sc => ?_)
  refine And.intro (Wdo_139 hW) (And.intro (Or.inl rfl) ?_)
  refine And.intro ⟨rfl, rfl, Nat.le_refl _, Nat.le_refl _⟩ ?_
  exact hQ
theorem C56 {d : Nat} {m : Mm} {Q : Option Value → Mm → Prop} {a b : Nat} (hW : Wd m.2.2) (hb : va_rf (mR m 87 4) = .ref b) (hQ : Q (some (.ref b)) (uR m 87 4 (some a))) : Cc d 0 0 56 [.ref 87, .ref a] m Q := by
  refine ent (n := 36) z56 (by decide) rfl (by decide) (Nat.le_of_ble_eq_true rfl) (fun sc => ?_)
  refine And.intro (Wdo_87 hW) (Exists.intro _ (And.intro hb ?_))
  refine And.intro (Wdo_87 hW) ?_
  refine And.intro ⟨rfl, Nat.le_refl _, Nat.le_refl _⟩ ?_
  exact hQ
theorem nr_x {n t : Nat} (hn : n ≤ t) (ht : t < 2 ^ 31) : ¬ (nI n < 0 ∨ nI t < nI n) := fun h => h.elim (nI_pos (by omega)) (Int32.not_lt.mpr (nI_le hn ht))
theorem P_land {d : Nat} {m : Mm} {Q : Option Value → Mm → Prop} {z : Nat} {x : Int32} (hd : 16 ≤ d) (hz9 : z + 30 < 999999) (hR : Rel z m) (h : ∀ (r : Int32) m1, Wd m1.2.2 → (∀ Q2 : Option Value → Mm → Prop, (∀ z2 m2, z ≤ z2 → z2 ≤ z + 29 → Rel z2 m2 → Q2 (some (.int r)) m2) → Cc d 29 533 244 [.ref 142, .int x] m1 Q2) → Q (some (.int r)) m1) : Cc d 0 0 121 [.ref 0, .int x] m Q := by
  obtain ⟨hW, hz, hS, a, b, hA, hX⟩ := id hR
  obtain ⟨hL, hLb, hab, ha, hb⟩ := RelA_L hW hA
  obtain ⟨t, ht0, ht1, ht2, ht3⟩ := id hX.1
  refine ent (n := 142) z121 (by decide) rfl (by decide) (Nat.le_of_ble_eq_true rfl) (fun sc => ?_)
  refine And.intro (fun cz1 => ?_) (fun cz1 => ?_)
  · -- 1 taken: x < 0
    refine And.intro ⟨by omega, Nat.le_of_ble_eq_true rfl, Nat.le_refl _, Nat.le_refl _⟩ (And.intro (Wdo_0 hW) ?_)
    refine C176 hW ?_
    refine And.intro ⟨rfl, trivial, Nat.le_refl _, Nat.le_refl _⟩ ?_
    refine h _ _ hW (fun Q2 h2 => ?_)
    refine L244 (mo := uI m 0 0 (nI 2)) (cs := fun _ => 0) (ss := fun _ => 0) (ns := fun _ => 0) (Λ := fun _ _ => 0) (B := mI m 89) (t := t) (q := z) (by omega) hW hz (by omega) (by rw [uI_ne (by decide)]; exact ht2) ht0 (fun j hj => by rw [uI_ne (by decide)]; exact ht3 j hj) (fun _ => h2 z _ (Nat.le_refl _) (by omega) (Rel_ans hR (by decide))) (fun n f p m2 ex hn er hl => ?_) (fun n Λ2 m2 ex hn er hl => ?_)
    · exact absurd (show x < 0 ∨ nI t < x from Or.inl cz1) (by rw [ex]; exact nr_x hn (by omega))
    · exact absurd (show x < 0 ∨ nI t < x from Or.inl cz1) (by rw [ex]; exact nr_x hn (by omega))
  · -- 1 not: ¬ x < 0
    refine And.intro (Wdo_0 hW) (Exists.intro _ (And.intro (Wdr_0_6 hW) ?_))
    refine And.intro (Wdo_87 hW) (Exists.intro _ (And.intro (Wdr_87_0 hW) ?_))
    refine And.intro (Wdo_88 hW) ?_
    rw [ht1]
    refine And.intro (fun cz7 => ?_) (fun cz7 => ?_)
    · -- 7 taken: x ≤ nI t
      refine And.intro (Wdo_0 hW) (Exists.intro _ (And.intro (Wdr_0_6 hW) ?_))
      refine And.intro ⟨by omega, Nat.le_of_ble_eq_true rfl, Nat.le_refl _, Nat.le_refl _⟩ (And.intro (Wdo_87 hW) ?_)
      obtain ⟨⟨n, hn, ex⟩, -⟩ := iR_of (x := x) (a := 0) (b := t) (by decide) (by omega) (Int32.not_lt.mp cz1) cz7
      subst ex
      have hpp := (pp_self (m := m) (x := 87) (n := 6) (y := b) (l := 19)).symm
      generalize hDe : (fun f => mI m (87 + f)) = D at hpp
      generalize (fun f => mJ m (87 + f)) = K at hpp
      generalize (fun f => mI m (b + f)) = E at hpp
      generalize (fun f => mJ m (b + f)) = L at hpp
      have hdj : b + 19 ≤ 87 ∨ 87 + 6 ≤ b := by have := hA.1; omega
      have hD2 : D 2 = mI m 89 := by rw [← hDe]
      rw [hpp]
      refine D57 (B := mI m 89) hW hLb hdj (by omega) hb (by omega) hD2 (fun D1 K1 E1 f p er g7 g8 g9 => ?_) (fun D1 K1 E1 T1 er hI1 hla1 g7 g9 => ?_)
      · -- a way behind the call
        have p22 : (pp m 87 6 D1 K1 b 19 E1 L).2.2 = m.2.2 := pp_22
        have p87 : mI (pp m 87 6 D1 K1 b 19 E1 L) 87 = D1 0 := pp_10 (by decide)
        have p88 : mI (pp m 87 6 D1 K1 b 19 E1 L) 88 = D1 1 := pp_1 (x := 87) (f := 1) (by decide)
        have pb : ∀ f, f < 19 → mI (pp m 87 6 D1 K1 b 19 E1 L) (b + f) = E1 f := fun f hf => pp_2 hdj hf
        have po : ∀ r, (r < 87 ∨ 93 ≤ r) → (r < b ∨ b + 19 ≤ r) → mI (pp m 87 6 D1 K1 b 19 E1 L) r = mI m r := fun r h1 h2 => pp_o h1 h2
        clear hpp
        generalize pp m 87 6 D1 K1 b 19 E1 L = m9 at p22 p87 p88 pb po ⊢
        have eR9 : mR m9 = mR m := congrArg (fun w : WR => w.1) p22
        have hW0 := hW
        have hW : Wd m9.2.2 := by rw [p22]; exact hW0
        have hL : LW m9.2.2 a := by rw [p22]; exact hL
        have ha : va_rf (mR m9 0 3) = .ref a := by rw [eR9]; exact ha
        have hb : va_rf (mR m9 87 4) = .ref b := by rw [eR9]; exact hb
        refine And.intro (Wdo_0 hW) (Exists.intro _ (And.intro (Wdr_0_6 hW) ?_))
        refine And.intro (Wdo_87 hW) ?_
        rw [((congrFun p87 7).trans g7)]
        refine And.intro (Wdo_0 hW) ?_
        refine And.intro (Wdo_0 hW) (Exists.intro _ (And.intro (Wdr_0_6 hW) ?_))
        refine And.intro (Wdo_87 hW) ?_
        rw [uI_ne (m := m9) (a := 0) (b := 87) (by omega)]
        rw [((congrFun p87 8).trans g8)]
        refine And.intro (Wdo_0 hW) ?_
        refine And.intro (fun cz28 => False.elim (absurd cz28 (by decide))) (fun cz28 => ?_)
        refine And.intro ⟨by omega, Nat.le_of_ble_eq_true rfl, Nat.le_refl _, Nat.le_refl _⟩ (And.intro (Wdo_0 hW) ?_)
        refine C176 (m := (uI (uI m9 0 1 (nI f)) 0 2 (nI p))) hW ?_
        refine And.intro ⟨rfl, trivial, Nat.le_refl _, Nat.le_refl _⟩ ?_
        have hg143 : ∀ j, j < t → mI (uI (uI (uI m9 0 1 (nI f)) 0 2 (nI p)) 0 0 (nI 4)) 143 j = mI m 89 j ∧ bt (mI m 89 j) := fun j hj => by rw [uI_ne (by decide), uI_ne (by decide), uI_ne (by decide), po 143 (by decide) (by have := hA.1; omega)]; exact ht3 j hj
        have hg6 : mI (uI (uI (uI m9 0 1 (nI f)) 0 2 (nI p)) 0 0 (nI 4)) 142 6 = nI t := by rw [uI_ne (by decide), uI_ne (by decide), uI_ne (by decide), po 142 (by decide) (by have := hA.1; omega)]; exact ht2
        have hgz : mZ (uI (uI (uI m9 0 1 (nI f)) 0 2 (nI p)) 0 0 (nI 4)) = z := by rw [uI_Z2, uI_Z2, uI_Z2, show mZ m9 = mZ m from congrArg (fun w : WR => w.2.2) p22]; exact hz
        refine h _ _ hW (fun Q2 h2 => ?_)
        refine L244 (mo := uI (uI (uI m9 0 1 (nI f)) 0 2 (nI p)) 0 0 (nI 4)) (cs := K 3) (ss := D 4) (ns := D 5) (Λ := E) (B := mI m 89) (t := t) (q := z) (by omega) hW hgz (by omega) hg6 ht0 hg143 (fun hbd => absurd hbd (nr_x (by omega) (by omega))) (fun n2 f2 p2 m2 ex hn2 er2 hl => ?_) (fun n2 Λ2 m2 ex hn2 er2 hl => ?_)
        · have en : n = n2 := (nI_eq (by omega) (by omega)).mp ex
          subst en
          have ez3 : (f, p) = (f2, p2) := Sum.inl.inj (er.symm.trans er2)
          have ef : f = f2 := congrArg Prod.fst ez3
          have ep : p = p2 := congrArg Prod.snd ez3
          subst ef
          subst ep
          refine h2 (z + 29) _ (by omega) (Nat.le_refl _) (Rel_lF (g := uI (uI (uI m9 0 1 (nI f)) 0 2 (nI p)) 0 0 (nI 4)) hW0 hz hA hX (by rw [uI_22, uI_22, uI_22]; exact p22) (fun r h0 h1 h3 => by rw [uI_ne h0, uI_ne h0, uI_ne h0, po r h1 h3]) (by rw [uI_eq, upd_e]) (by rw [uI_eq, upd_o (by decide), uI_eq, upd_o (by decide), uI_eq, upd_e]) (by rw [uI_eq, upd_o (by decide), uI_eq, upd_e]) (by rw [uI_eq, upd_o (by decide), uI_eq, upd_o (by decide), uI_eq, upd_o (by decide), po 0 (by decide) (by have := hA.1; omega)]) (by rw [uI_ne (by decide), uI_ne (by decide), uI_ne (by decide), p88]; exact g9) hl)
        · have en : n = n2 := (nI_eq (by omega) (by omega)).mp ex
          subst en
          exact absurd (er.symm.trans er2) (by intro z9; cases z9)
      · -- a way behind the call
        have p22 : (pp m 87 6 D1 K1 b 19 E1 L).2.2 = m.2.2 := pp_22
        have p87 : mI (pp m 87 6 D1 K1 b 19 E1 L) 87 = D1 0 := pp_10 (by decide)
        have p88 : mI (pp m 87 6 D1 K1 b 19 E1 L) 88 = D1 1 := pp_1 (x := 87) (f := 1) (by decide)
        have pb : ∀ f, f < 19 → mI (pp m 87 6 D1 K1 b 19 E1 L) (b + f) = E1 f := fun f hf => pp_2 hdj hf
        have po : ∀ r, (r < 87 ∨ 93 ≤ r) → (r < b ∨ b + 19 ≤ r) → mI (pp m 87 6 D1 K1 b 19 E1 L) r = mI m r := fun r h1 h2 => pp_o h1 h2
        clear hpp
        generalize pp m 87 6 D1 K1 b 19 E1 L = m9 at p22 p87 p88 pb po ⊢
        have eR9 : mR m9 = mR m := congrArg (fun w : WR => w.1) p22
        have hW0 := hW
        have hW : Wd m9.2.2 := by rw [p22]; exact hW0
        have hL : LW m9.2.2 a := by rw [p22]; exact hL
        have ha : va_rf (mR m9 0 3) = .ref a := by rw [eR9]; exact ha
        have hb : va_rf (mR m9 87 4) = .ref b := by rw [eR9]; exact hb
        refine And.intro (Wdo_0 hW) (Exists.intro _ (And.intro (Wdr_0_6 hW) ?_))
        refine And.intro (Wdo_87 hW) ?_
        rw [((congrFun p87 7).trans g7)]
        refine And.intro (Wdo_0 hW) ?_
        refine And.intro (Wdo_0 hW) (Exists.intro _ (And.intro (Wdr_0_6 hW) ?_))
        refine And.intro (Wdo_87 hW) ?_
        rw [uI_ne (m := m9) (a := 0) (b := 87) (by omega)]
        refine And.intro (Wdo_0 hW) ?_
        refine And.intro (fun cz28 => ?_) (fun cz28 => False.elim (absurd cz28 (by decide)))
        refine And.intro (Wdo_0 hW) (Exists.intro _ (And.intro (Wdr_0_6 hW) ?_))
        refine And.intro (Wdo_0 hW) (Exists.intro _ (And.intro ha ?_))
        refine And.intro ⟨by omega, Nat.le_of_ble_eq_true rfl, Nat.le_refl _, Nat.le_refl _⟩ (And.intro (Wdo_87 hW) ?_)
        refine C56 (m := (uI (uI m9 0 1 (nI 0)) 0 2 (mI m9 87 8))) (b := b) (a := a) hW hb ?_
        have hW8 : Wd (uR (uI (uI m9 0 1 (nI 0)) 0 2 (mI m9 87 8)) 87 4 (some a)).2.2 := Wd_uR hW (Or.inr (Or.inr ⟨rfl, rfl⟩))
        refine And.intro (Wdo_0 hW8) ?_
        have hW7 : Wd (uR (uR (uI (uI m9 0 1 (nI 0)) 0 2 (mI m9 87 8)) 87 4 (some a)) 0 3 (some b)).2.2 := Wd_uR hW8 (Or.inr (Or.inl ⟨rfl, rfl⟩))
        have i7 : mI (uR (uR (uI (uI m9 0 1 (nI 0)) 0 2 (mI m9 87 8)) 87 4 (some a)) 0 3 (some b)) = mI (uI (uI m9 0 1 (nI 0)) 0 2 (mI m9 87 8)) := by rw [uR_I, uR_I]
        have r70 : mR (uR (uR (uI (uI m9 0 1 (nI 0)) 0 2 (mI m9 87 8)) 87 4 (some a)) 0 3 (some b)) 0 3 = some b := by rw [uR_eq, up_eq]
        have r787 : mR (uR (uR (uI (uI m9 0 1 (nI 0)) 0 2 (mI m9 87 8)) 87 4 (some a)) 0 3 (some b)) 87 4 = some a := by rw [uR_ne (by decide), uR_eq, up_eq]
        have z7 : mZ (uR (uR (uI (uI m9 0 1 (nI 0)) 0 2 (mI m9 87 8)) 87 4 (some a)) 0 3 (some b)) = mZ m9 := by rw [uR_Z2, uR_Z2, uI_Z2, uI_Z2]
        generalize uR (uR (uI (uI m9 0 1 (nI 0)) 0 2 (mI m9 87 8)) 87 4 (some a)) 0 3 (some b) = m7 at hW7 i7 r70 r787 z7 ⊢
        have ha7 : va_rf (mR m7 0 3) = .ref b := by rw [r70]; rfl
        have hLb7 : LW m7.2.2 b := by
          rcases hA.1 with ⟨-, ez1⟩ | ⟨-, ez1⟩
          · rw [ez1]; exact Wd_L2 hW7
          · rw [ez1]; exact Wd_L1 hW7
        refine And.intro (Wdo_0 hW7) (Exists.intro _ (And.intro (Wdr_0_4 hW7) ?_))
        refine And.intro (Wdo_0 hW7) (Exists.intro _ (And.intro ha7 ?_))
        refine And.intro (LWo_0 hLb7) (Exists.intro _ (And.intro (LWr_0_18 hLb7) ?_))
        refine And.intro ⟨by omega, Nat.le_of_ble_eq_true rfl, Nat.le_refl _, Nat.le_refl _⟩ (And.intro (SWo_0 (Wd_S hW7)) ?_)
        refine C99 (m := m7) (b := b + 15) (g := 20) (by omega) (LW_S hLb7) (Wd_S hW7) (by have := hA.1; omega) ?_
        have hcp := cpM_P (m := m7) (b := b + 15) (g := 20)
        have a22 : (cpM m7 (b + 15) 20).2.2 = m7.2.2 := cpM_22
        generalize cpM m7 (b + 15) 20 = m6 at hcp a22 ⊢
        have hW6 : Wd m6.2.2 := by rw [a22]; exact hW7
        have hLb6 : LW m6.2.2 b := by rw [a22]; exact hLb7
        have ha6 : va_rf (mR m6 0 3) = .ref b := by rw [show mR m6 = mR m7 from congrArg (fun w : WR => w.1) a22]; exact ha7
        refine And.intro (Wdo_0 hW6) (Exists.intro _ (And.intro (Wdr_0_5 hW6) ?_))
        refine And.intro ⟨by omega, Nat.le_of_ble_eq_true rfl, Nat.le_refl _, Nat.le_refl _⟩ (And.intro (Wdo_24 hW6) ?_)
        refine C50 hW6 ?_
        refine And.intro (Wdo_0 hW6) (Exists.intro _ (And.intro (Wdr_0_10 hW6) ?_))
        refine And.intro ⟨by omega, Nat.le_of_ble_eq_true rfl, Nat.le_refl _, Nat.le_refl _⟩ (And.intro (Wdo_139 hW6) ?_)
        refine C91 (m := (uI (uI m6 24 3 (nI 0)) 24 4 (nI 0))) hW6 ?_
        refine And.intro (Wdo_0 hW6) (And.intro (Or.inr rfl) ?_)
        refine And.intro (Wdo_0 hW6) (Exists.intro _ (And.intro ha6 ?_))
        refine And.intro ⟨by omega, Nat.le_of_ble_eq_true rfl, Nat.le_refl _, Nat.le_refl _⟩ (And.intro (LWo_0 hLb6) ?_)
        refine C23 (m := (uI (uI (uI (uI m6 24 3 (nI 0)) 24 4 (nI 0)) 139 4 (nI 0)) 0 12 (nI 1))) hLb6 ?_
        refine And.intro ⟨by omega, Nat.le_of_ble_eq_true rfl, Nat.le_refl _, Nat.le_refl _⟩ (And.intro (Wdo_0 hW6) ?_)
        refine C177 (m := (uI (uI (uI (uI m6 24 3 (nI 0)) 24 4 (nI 0)) 139 4 (nI 0)) 0 12 (nI 1))) hW6 ?_
        refine And.intro ⟨rfl, trivial, Nat.le_refl _, Nat.le_refl _⟩ ?_
        have hb93 : b = 1 ∨ b = 93 := by have := hA.1; omega
        have r6 : ∀ r, (r < 20 ∨ 24 ≤ r) → r ≠ 0 → mI m6 r = mI m9 r := fun r h1 h2 => by rw [hcp.1 r (by omega), i7, uI_ne h2, uI_ne h2]
        have gb : ∀ f, f < 19 → mI (uI (uI (uI (uI (uI m6 24 3 (nI 0)) 24 4 (nI 0)) 139 4 (nI 0)) 0 12 (nI 1)) 0 0 (nI 0)) (b + f) = E1 f := fun f hf => by rw [uI_ne (by omega), uI_ne (by omega), uI_ne (by omega), uI_ne (by omega), uI_ne (by omega), r6 (b + f) (by omega) (by omega), pb f hf]
        have o7 : ∀ f, f < 19 → mI m7 (b + f) = E1 f := fun f hf => by rw [i7, uI_ne (by omega), uI_ne (by omega), pb f hf]
        have hg143 : ∀ j, j < t → mI (uI (uI (uI (uI (uI m6 24 3 (nI 0)) 24 4 (nI 0)) 139 4 (nI 0)) 0 12 (nI 1)) 0 0 (nI 0)) 143 j = mI m 89 j ∧ bt (mI m 89 j) := fun j hj => by rw [uI_ne (by decide), uI_ne (by decide), uI_ne (by decide), uI_ne (by decide), uI_ne (by decide), r6 143 (by decide) (by decide), po 143 (by decide) (by omega)]; exact ht3 j hj
        have hg6 : mI (uI (uI (uI (uI (uI m6 24 3 (nI 0)) 24 4 (nI 0)) 139 4 (nI 0)) 0 12 (nI 1)) 0 0 (nI 0)) 142 6 = nI t := by rw [uI_ne (by decide), uI_ne (by decide), uI_ne (by decide), uI_ne (by decide), uI_ne (by decide), r6 142 (by decide) (by decide), po 142 (by decide) (by omega)]; exact ht2
        have ez6 : mR m6 = mR m7 := congrArg (fun w : WR => w.1) a22
        have hgz : mZ (uI (uI (uI (uI (uI m6 24 3 (nI 0)) 24 4 (nI 0)) 139 4 (nI 0)) 0 12 (nI 1)) 0 0 (nI 0)) = z := by rw [uI_Z2, uI_Z2, uI_Z2, uI_Z2, uI_Z2, show mZ m6 = mZ m7 from congrArg (fun w : WR => w.2.2) a22, z7, show mZ m9 = mZ m from congrArg (fun w : WR => w.2.2) p22]; exact hz
        have hv : mI (uI (uI (uI (uI m6 24 3 (nI 0)) 24 4 (nI 0)) 139 4 (nI 0)) 0 12 (nI 1)) (b + 1) 4 = E1 1 4 := by
          have hc := gb 1 (by decide)
          rw [uI_ne (by omega)] at hc
          exact congrFun hc 4
        rw [hv]
        refine h _ _ hW6 (fun Q2 h2 => ?_)
        refine L244 (mo := (uI (uI (uI (uI (uI m6 24 3 (nI 0)) 24 4 (nI 0)) 139 4 (nI 0)) 0 12 (nI 1)) 0 0 (nI 0))) (cs := K 3) (ss := D 4) (ns := D 5) (Λ := E) (B := mI m 89) (t := t) (q := z) (by omega) hW6 hgz (by omega) hg6 ht0 hg143 (fun hbd => absurd hbd (nr_x (by omega) (by omega))) (fun n2 f2 p2 m2 ex hn2 er2 hl => ?_) (fun n2 Λ2 m2 ex hn2 er2 hl => ?_)
        · have en : n = n2 := (nI_eq (by omega) (by omega)).mp ex
          subst en
          exact absurd (er.symm.trans er2) (by intro z9; cases z9)
        · have en : n = n2 := (nI_eq (by omega) (by omega)).mp ex
          subst en
          have eE : E1 = Λ2 := Sum.inr.inj (er.symm.trans er2)
          subst eE
          obtain ⟨fk, wk, yk, hfk, hwk, hyk, hp2, hp3, hp4, -, -, -, -⟩ := hX.2.2.2.1
          have hv2 : mI m2 z 6 = E1 1 4 := hl.2.2.2.1.1.2.2.2.2.2.2.1
          rw [hv2]
          refine h2 (z + 29) _ (by omega) (Nat.le_refl _) (Rel_lO (m := m) (g := (uI (uI (uI (uI (uI m6 24 3 (nI 0)) 24 4 (nI 0)) 139 4 (nI 0)) 0 12 (nI 1)) 0 0 (nI 0))) (by have := hW0.1; rw [← hz]; exact this) hA.1 hW6 (by rw [show mR (uI (uI (uI (uI (uI m6 24 3 (nI 0)) 24 4 (nI 0)) 139 4 (nI 0)) 0 12 (nI 1)) 0 0 (nI 0)) = mR m6 from rfl, ez6]; exact r70) (by rw [show mR (uI (uI (uI (uI (uI m6 24 3 (nI 0)) 24 4 (nI 0)) 139 4 (nI 0)) 0 12 (nI 1)) 0 0 (nI 0)) = mR m6 from rfl, ez6]; exact r787) gb ?_ ?_ (fun x hx => ?_) (fun x hx => ?_) (fun x hx => ?_) hfk ?_ ?_ ?_ ?_ (by rw [uI_eq, upd_e]) ?_ (by rw [uI_eq, upd_o (by decide), uI_eq, upd_e]) ?_ hI1 hla1 (rd_p _ LRI_0 er) hl)
          · rw [uI_ne (by decide), uI_ne (by decide), uI_ne (by decide), uI_ne (by decide), uI_ne (by decide), hcp.2.1]; exact congrFun (o7 15 (by decide)) 0
          · rw [uI_ne (by decide), uI_ne (by decide), uI_ne (by decide), uI_ne (by decide), uI_ne (by decide), hcp.2.2.1]; exact congrFun (o7 15 (by decide)) 1
          · rw [uI_ne (by decide), uI_ne (by decide), uI_ne (by decide), uI_ne (by decide), uI_ne (by decide), hcp.2.2.2.1 x hx]; exact congrFun (o7 16 (by decide)) x
          · rw [uI_ne (by decide), uI_ne (by decide), uI_ne (by decide), uI_ne (by decide), uI_ne (by decide), hcp.2.2.2.2.1 x hx]; exact congrFun (o7 17 (by decide)) x
          · rw [uI_ne (by decide), uI_ne (by decide), uI_ne (by decide), uI_ne (by decide), uI_ne (by decide), hcp.2.2.2.2.2 x hx]; exact congrFun (o7 18 (by decide)) x
          · rw [uI_ne (by decide), uI_ne (by decide), uI_ne (by decide), uI_eq, upd_o (by decide), uI_eq, upd_o (by decide), r6 24 (by decide) (by decide), po 24 (by decide) (by omega)]; exact hp2
          · rw [uI_ne (by decide), uI_ne (by decide), uI_ne (by decide), uI_eq, upd_o (by decide), uI_eq, upd_e]
          · rw [uI_ne (by decide), uI_ne (by decide), uI_ne (by decide), uI_eq, upd_e]
          · rw [uI_ne (by decide), uI_ne (by decide), uI_eq, upd_e]
          · rw [uI_eq, upd_o (by decide), uI_eq, upd_o (by decide), uI_ne (by decide), uI_ne (by decide), uI_ne (by decide), hcp.1 0 (by decide), i7, uI_eq, upd_o (by decide), uI_eq, upd_e]
          · rw [uI_ne (by decide), uI_ne (by decide), uI_ne (by decide), uI_ne (by decide), uI_ne (by decide), r6 88 (by decide) (by decide), p88]; exact g9
    · -- 7 not: ¬ x ≤ nI t
      refine And.intro ⟨by omega, Nat.le_of_ble_eq_true rfl, Nat.le_refl _, Nat.le_refl _⟩ (And.intro (Wdo_0 hW) ?_)
      refine C176 hW ?_
      refine And.intro ⟨rfl, trivial, Nat.le_refl _, Nat.le_refl _⟩ ?_
      refine h _ _ hW (fun Q2 h2 => ?_)
      refine L244 (mo := uI m 0 0 (nI 2)) (cs := fun _ => 0) (ss := fun _ => 0) (ns := fun _ => 0) (Λ := fun _ _ => 0) (B := mI m 89) (t := t) (q := z) (by omega) hW hz (by omega) (by rw [uI_ne (by decide)]; exact ht2) ht0 (fun j hj => by rw [uI_ne (by decide)]; exact ht3 j hj) (fun _ => h2 z _ (Nat.le_refl _) (by omega) (Rel_ans hR (by decide))) (fun n f p m2 ex hn er hl => ?_) (fun n Λ2 m2 ex hn er hl => ?_)
      · exact absurd (show x < 0 ∨ nI t < x from Or.inr (Int32.not_le.mp cz7)) (by rw [ex]; exact nr_x hn (by omega))
      · exact absurd (show x < 0 ∨ nI t < x from Or.inr (Int32.not_le.mp cz7)) (by rw [ex]; exact nr_x hn (by omega))
