theorem RelX_tp {m n : Mm} {a b : Nat} (hA : RelA m a b) (h22 : n.2.2 = m.2.2) (hI : ∀ r, ¬ scr r → r ≠ 0 → r ≠ 142 → r ≠ 140 → r ≠ 88 → r ≠ 89 → r ≠ 143 → mI n r = mI m r) (h12 : mI n 0 12 = mI m 0 12) (hT9 : RelT (mI n)) (h21 : mI n 142 21 = mI m 142 21) (h22b : mI n 142 22 = mI m 142 22) (h140 : mI m 139 4 = nI 1 → mI n 140 = mI m 140) (h : RelX m a) : RelX n a := by
  obtain ⟨hT, hV, hL, hP, hD, hE⟩ := h
  have ha : a = 1 ∨ a = 93 := hA.1.elim (fun z => Or.inl z.1) (fun z => Or.inr z.1)
  have hi : ∀ r, ((r < 124 ∧ r ≠ 88 ∧ r ≠ 89) ∨ r = 139 ∨ r = 145 ∨ r = 146 ∨ r = 147 ∨ 158 ≤ r) → r ≠ 0 → mI n r = mI m r := fun r hr h0 => hI r (by unfold scr; omega) h0 (by omega) (by omega) (by omega) (by omega) (by omega)
  have hla : ∀ f, f < 19 → mI n (a + f) = mI m (a + f) := fun f hf => hi _ (by omega) (by omega)
  have eZ : mZ n = mZ m := congrArg (fun w : WR => w.2.2) h22
  have eR : mR n = mR m := congrArg (fun w : WR => w.1) h22
  have ez0 : mI n a = mI m a := hla 0 (by decide)
  have ez1 : mI n (a + 1) = mI m (a + 1) := hla 1 (by decide)
  refine ⟨?_, ?_, ?_, ?_, ?_, ?_⟩
  · exact hT9
  · unfold SV at hV ⊢
    rw [hi 145 (by omega) (by omega), hi 20 (by omega) (by omega), hi (20 + 1) (by omega) (by omega), hi (20 + 2) (by omega) (by omega), hi (20 + 3) (by omega) (by omega)]
    exact hV
  · rcases hL with hL | ⟨q, b1, b2, b3, b4, b5, b6, b7, b8, b9⟩
    · left
      unfold RelL0 at hL ⊢
      rw [eR, ez0, ez1, hi 20 (by omega) (by omega), hi 24 (by omega) (by omega)]
      exact hL
    · right
      refine ⟨q, b1, by rw [eZ]; exact b2, by rw [h22]; exact b3, by rw [eR]; exact b4, ?_, by rw [ez1]; exact b6, ?_, ?_, ?_⟩
      · obtain ⟨T, hI2⟩ := b5
        exact ⟨T, LRI_19 (fun f hf => hla f hf) hI2⟩
      · show ¬ laP (lam n a)
        unfold laP
        rw [show lam n a 0 = lam m a 0 from hla 0 (by decide), show lam n a 1 = lam m a 1 from hla 1 (by decide)]
        exact b7
      · exact LQ_19 (fun f hf => hla f hf) (LQ_29 (E := lam m q) (fun f hf => hi _ (by omega) (by omega)) b8)
      · unfold SR at b9 ⊢
        rw [show lam n a 1 = lam m a 1 from hla 1 (by decide), hi 20 (by omega) (by omega), hi (20 + 1) (by omega) (by omega), hi (20 + 2) (by omega) (by omega), hi (20 + 3) (by omega) (by omega)]
        exact b9
  · obtain ⟨f, w, y, cz1, cz2, cz3, cz4, cz5, cz6, cz7, cz8, cz9, cz10⟩ := hP
    refine ⟨f, w, y, cz1, cz2, cz3, by rw [hi 24 (by omega) (by omega)]; exact cz4, by rw [hi 24 (by omega) (by omega)]; exact cz5, by rw [hi 24 (by omega) (by omega)]; exact cz6, by rw [h21]; exact cz7, by rw [h22b]; exact cz8, fun i h9 => ?_, fun j h9 => ?_⟩
    · have hb : (f + i) % 12 < 12 := Nat.mod_lt _ (by decide)
      have := cz9 i h9
      generalize (f + i) % 12 = s at this hb ⊢
      unfold SV SR at this ⊢
      rw [hi 146 (by omega) (by omega), hi (27 + 4 * s) (by omega) (by omega), hi (27 + 4 * s + 1) (by omega) (by omega), hi (27 + 4 * s + 2) (by omega) (by omega), hi (27 + 4 * s + 3) (by omega) (by omega), show lam n a 1 = lam m a 1 from hla 1 (by decide)]
      exact this
    · have := cz10 j h9
      unfold SV SR at this ⊢
      rw [hi 147 (by omega) (by omega), hi (75 + 4 * j) (by omega) (by omega), hi (75 + 4 * j + 1) (by omega) (by omega), hi (75 + 4 * j + 2) (by omega) (by omega), hi (75 + 4 * j + 3) (by omega) (by omega), show lam n a 1 = lam m a 1 from hla 1 (by decide)]
      exact this
  · rcases hD with hD | ⟨d1, D, g, d2⟩
    · exact Or.inl (h12.trans hD)
    · refine Or.inr ⟨h12.trans d1, D, g, fun f hf => ?_⟩
      rw [hi (112 + f) (by omega) (by omega), d2 f hf, ez0, ez1]
      exact congrFun (runF_19 (fun f hf => (hla f hf).symm) (fun f hf => (hi (20 + f) (by omega) (by omega)).symm)) f
  · unfold RelE at hE ⊢
    rw [hi 139 (by omega) (by omega)]
    rcases hE with hE | ⟨g1, g2⟩
    · exact Or.inl hE
    · refine Or.inr ⟨g1, ?_⟩
      rw [hla 12 (by decide), hla 13 (by decide), ez0, ez1]
      refine NI_2 ?_ ?_ g2
      · exact hi 139 (by omega) (by omega)
      · exact h140 g1
theorem uI_self {m : Mm} {a i : Nat} {x : Int32} (h : mI m a i = x) : uI m a i x = m := by
  have e : va_up m.1 a (upd (mI m a) i x) = m.1 := by
    funext r
    by_cases hr : r = a
    · rw [hr, up_eq]
      funext y
      by_cases hy : y = i
      · rw [hy, upd_e]; exact h.symm
      · rw [upd_o hy]; rfl
    · rw [up_ne hr]
  show (va_up m.1 a (upd (mI m a) i x), m.2) = m
  rw [e]
theorem uI_cc {m : Mm} {a b i j : Nat} {x y v : Int32} (hab : b ≠ a) : uI (uI (uI m a i x) b j v) a i y = uI (uI m b j v) a i y := by
  have h1 : ∀ r, mI (uI (uI (uI m a i x) b j v) a i y) r = mI (uI (uI m b j v) a i y) r := fun r => by
    by_cases ha : r = a
    · rw [ha, uI_eq, uI_eq, uI_ne (Ne.symm hab), uI_ne (Ne.symm hab), uI_eq]
      funext z
      by_cases hz : z = i
      · rw [hz, upd_e, upd_e]
      · rw [upd_o hz, upd_o hz, upd_o hz]
    · rw [uI_ne ha, uI_ne ha]
      by_cases hb : r = b
      · rw [hb, uI_eq, uI_eq, uI_ne hab]
      · rw [uI_ne hb, uI_ne hb, uI_ne ha]
  exact Prod.ext (funext h1) rfl
/-- byte j of an int -/
def byF (v : Int32) (j : Nat) : Int32 := vp_nar .byte ((v >>> (nI (24 - 8 * j) &&& 31)).toInt8.toInt32)
def tpM (m : Mm) (t : Nat) (v : Int32) (j : Nat) : Mm := uI (rI m 89 (cpF (mI m 89) (byF v) t j)) 88 1 (nI (t + j))
theorem tpM_0 {m : Mm} {t : Nat} {v : Int32} (h : mI m 88 1 = nI t) : tpM m t v 0 = m := by
  unfold tpM
  rw [cpF_0, rI_self, Nat.add_zero, uI_self h]
theorem tpM_s {m : Mm} {t j : Nat} {v : Int32} : uI (uI (tpM m t v j) 89 (t + j) (byF v j)) 88 1 (nI (t + j) + nI 1) = tpM m t v (j + 1) := by
  unfold tpM
  rw [uI_cc (by decide), uI_rI, cpF_s, nI_add, Nat.add_assoc]
theorem lapp4 {sc : Nat × (Nat → Int32)} {d : Nat} {m : Mm} {Q : Option Value → Mm → Prop} {t : Nat} {v : Int32} (hW : Wd m.2.2) (ht : t + 4 ≤ 1200) (hQ : Q none (tpM m t v 4))  : Jj sc d 0 0 (mth 106) (pg P106 2).1 [some (.ref 88), some (.int v), some (.int (-nI 8))] [] (tpM m t v 4) 0 0 Q := by
  refine J_w z106 (i := 2) (by decide) 72 ?_
  refine And.intro (fun cz3 => ?_) (fun cz3 => False.elim (absurd (show -nI 8 < 0 by decide) cz3))
  refine And.intro ⟨rfl, rfl, Nat.le_refl _, Nat.le_refl _⟩ ?_
  exact hQ
theorem lapp3 {sc : Nat × (Nat → Int32)} {d : Nat} {m : Mm} {Q : Option Value → Mm → Prop} {t : Nat} {v : Int32} (hW : Wd m.2.2) (ht : t + 4 ≤ 1200) (hQ : Q none (tpM m t v 4))  : Jj sc d 0 0 (mth 106) (pg P106 2).1 [some (.ref 88), some (.int v), some (.int (nI 0))] [] (tpM m t v 3) 0 0 Q := by
  refine J_w z106 (i := 2) (by decide) 72 ?_
  refine And.intro (fun cz3 => False.elim (absurd cz3 (by decide))) (fun cz3 => ?_)
  refine And.intro (Wdo_88 hW) ?_
  rw [(show mI (tpM m t v 3) 88 1 = nI (t + 3) from by unfold tpM; rw [uI_eq, upd_e])]
  refine And.intro (fun cz7 => ?_) (fun cz7 => ?_)
  · -- 7 taken: nI 1200 ≤ nI ((t + 3))
    have kz7 : 1200 ≤ (t + 3) := kle (a := 1200) (b := (t + 3)) rfl rfl (by omega) (by omega) cz7
    omega
  · -- 7 not: ¬ nI 1200 ≤ nI ((t + 3))
    have kz7 : (t + 3) < 1200 := knle (a := 1200) (b := (t + 3)) rfl rfl (by omega) (by omega) cz7
    refine And.intro (Wdo_88 hW) (Exists.intro _ (And.intro (Wdr_88_0 hW) ?_))
    refine And.intro (Wdo_88 hW) ?_
    rw [(show mI (tpM m t v 3) 88 1 = nI (t + 3) from by unfold tpM; rw [uI_eq, upd_e])]
    refine And.intro (Wdi_89 hW (vi rfl (by omega))) ?_
    rw [nI_clamp (show (t + 3) < 2 ^ 31 by omega)]
    rw [show vp_nar .byte (v >>> (nI 0 &&& 31)).toInt8.toInt32 = byF v 3 from rfl]
    refine And.intro rfl ?_
    refine And.intro (Wdo_88 hW) ?_
    rw [uI_ne (m := (tpM m t v 3)) (a := 89) (b := 88) (by omega)]
    rw [(show mI (tpM m t v 3) 88 1 = nI (t + 3) from by unfold tpM; rw [uI_eq, upd_e])]
    refine And.intro (Wdo_88 hW) ?_
    rw [show (uI (uI (tpM m t v 3) 89 ((t + 3)) (byF v 3)) 88 1 ((nI ((t + 3))) + nI 1)) = tpM m t v 4 from tpM_s]
    show Jj sc d 0 0 (mth 106) (pg P106 2).1 [some (.ref 88), some (.int v), some (.int ((nI 0) + -nI 8))] [] (tpM m t v 4) 0 0 Q
    rw [show (nI 0) + -nI 8 = -nI 8 by decide]
    exact lapp4 hW ht hQ
theorem lapp2 {sc : Nat × (Nat → Int32)} {d : Nat} {m : Mm} {Q : Option Value → Mm → Prop} {t : Nat} {v : Int32} (hW : Wd m.2.2) (ht : t + 4 ≤ 1200) (hQ : Q none (tpM m t v 4))  : Jj sc d 0 0 (mth 106) (pg P106 2).1 [some (.ref 88), some (.int v), some (.int (nI 8))] [] (tpM m t v 2) 0 0 Q := by
  refine J_w z106 (i := 2) (by decide) 72 ?_
  refine And.intro (fun cz3 => False.elim (absurd cz3 (by decide))) (fun cz3 => ?_)
  refine And.intro (Wdo_88 hW) ?_
  rw [(show mI (tpM m t v 2) 88 1 = nI (t + 2) from by unfold tpM; rw [uI_eq, upd_e])]
  refine And.intro (fun cz7 => ?_) (fun cz7 => ?_)
  · -- 7 taken: nI 1200 ≤ nI ((t + 2))
    have kz7 : 1200 ≤ (t + 2) := kle (a := 1200) (b := (t + 2)) rfl rfl (by omega) (by omega) cz7
    omega
  · -- 7 not: ¬ nI 1200 ≤ nI ((t + 2))
    have kz7 : (t + 2) < 1200 := knle (a := 1200) (b := (t + 2)) rfl rfl (by omega) (by omega) cz7
    refine And.intro (Wdo_88 hW) (Exists.intro _ (And.intro (Wdr_88_0 hW) ?_))
    refine And.intro (Wdo_88 hW) ?_
    rw [(show mI (tpM m t v 2) 88 1 = nI (t + 2) from by unfold tpM; rw [uI_eq, upd_e])]
    refine And.intro (Wdi_89 hW (vi rfl (by omega))) ?_
    rw [nI_clamp (show (t + 2) < 2 ^ 31 by omega)]
    rw [show vp_nar .byte (v >>> (nI 8 &&& 31)).toInt8.toInt32 = byF v 2 from rfl]
    refine And.intro rfl ?_
    refine And.intro (Wdo_88 hW) ?_
    rw [uI_ne (m := (tpM m t v 2)) (a := 89) (b := 88) (by omega)]
    rw [(show mI (tpM m t v 2) 88 1 = nI (t + 2) from by unfold tpM; rw [uI_eq, upd_e])]
    refine And.intro (Wdo_88 hW) ?_
    rw [show (uI (uI (tpM m t v 2) 89 ((t + 2)) (byF v 2)) 88 1 ((nI ((t + 2))) + nI 1)) = tpM m t v 3 from tpM_s]
    show Jj sc d 0 0 (mth 106) (pg P106 2).1 [some (.ref 88), some (.int v), some (.int ((nI 8) + -nI 8))] [] (tpM m t v 3) 0 0 Q
    rw [show (nI 8) + -nI 8 = nI 0 by decide]
    exact lapp3 hW ht hQ
theorem lapp1 {sc : Nat × (Nat → Int32)} {d : Nat} {m : Mm} {Q : Option Value → Mm → Prop} {t : Nat} {v : Int32} (hW : Wd m.2.2) (ht : t + 4 ≤ 1200) (hQ : Q none (tpM m t v 4))  : Jj sc d 0 0 (mth 106) (pg P106 2).1 [some (.ref 88), some (.int v), some (.int (nI 16))] [] (tpM m t v 1) 0 0 Q := by
  refine J_w z106 (i := 2) (by decide) 72 ?_
  refine And.intro (fun cz3 => False.elim (absurd cz3 (by decide))) (fun cz3 => ?_)
  refine And.intro (Wdo_88 hW) ?_
  rw [(show mI (tpM m t v 1) 88 1 = nI (t + 1) from by unfold tpM; rw [uI_eq, upd_e])]
  refine And.intro (fun cz7 => ?_) (fun cz7 => ?_)
  · -- 7 taken: nI 1200 ≤ nI ((t + 1))
    have kz7 : 1200 ≤ (t + 1) := kle (a := 1200) (b := (t + 1)) rfl rfl (by omega) (by omega) cz7
    omega
  · -- 7 not: ¬ nI 1200 ≤ nI ((t + 1))
    have kz7 : (t + 1) < 1200 := knle (a := 1200) (b := (t + 1)) rfl rfl (by omega) (by omega) cz7
    refine And.intro (Wdo_88 hW) (Exists.intro _ (And.intro (Wdr_88_0 hW) ?_))
    refine And.intro (Wdo_88 hW) ?_
    rw [(show mI (tpM m t v 1) 88 1 = nI (t + 1) from by unfold tpM; rw [uI_eq, upd_e])]
    refine And.intro (Wdi_89 hW (vi rfl (by omega))) ?_
    rw [nI_clamp (show (t + 1) < 2 ^ 31 by omega)]
    rw [show vp_nar .byte (v >>> (nI 16 &&& 31)).toInt8.toInt32 = byF v 1 from rfl]
    refine And.intro rfl ?_
    refine And.intro (Wdo_88 hW) ?_
    rw [uI_ne (m := (tpM m t v 1)) (a := 89) (b := 88) (by omega)]
    rw [(show mI (tpM m t v 1) 88 1 = nI (t + 1) from by unfold tpM; rw [uI_eq, upd_e])]
    refine And.intro (Wdo_88 hW) ?_
    rw [show (uI (uI (tpM m t v 1) 89 ((t + 1)) (byF v 1)) 88 1 ((nI ((t + 1))) + nI 1)) = tpM m t v 2 from tpM_s]
    show Jj sc d 0 0 (mth 106) (pg P106 2).1 [some (.ref 88), some (.int v), some (.int ((nI 16) + -nI 8))] [] (tpM m t v 2) 0 0 Q
    rw [show (nI 16) + -nI 8 = nI 8 by decide]
    exact lapp2 hW ht hQ
theorem lapp0 {sc : Nat × (Nat → Int32)} {d : Nat} {m : Mm} {Q : Option Value → Mm → Prop} {t : Nat} {v : Int32} (hW : Wd m.2.2) (ht : t + 4 ≤ 1200) (hQ : Q none (tpM m t v 4))  : Jj sc d 0 0 (mth 106) (pg P106 2).1 [some (.ref 88), some (.int v), some (.int (nI 24))] [] (tpM m t v 0) 0 0 Q := by
  refine J_w z106 (i := 2) (by decide) 72 ?_
  refine And.intro (fun cz3 => False.elim (absurd cz3 (by decide))) (fun cz3 => ?_)
  refine And.intro (Wdo_88 hW) ?_
  rw [(show mI (tpM m t v 0) 88 1 = nI (t + 0) from by unfold tpM; rw [uI_eq, upd_e])]
  refine And.intro (fun cz7 => ?_) (fun cz7 => ?_)
  · -- 7 taken: nI 1200 ≤ nI ((t + 0))
    have kz7 : 1200 ≤ (t + 0) := kle (a := 1200) (b := (t + 0)) rfl rfl (by omega) (by omega) cz7
    omega
  · -- 7 not: ¬ nI 1200 ≤ nI ((t + 0))
    have kz7 : (t + 0) < 1200 := knle (a := 1200) (b := (t + 0)) rfl rfl (by omega) (by omega) cz7
    refine And.intro (Wdo_88 hW) (Exists.intro _ (And.intro (Wdr_88_0 hW) ?_))
    refine And.intro (Wdo_88 hW) ?_
    rw [(show mI (tpM m t v 0) 88 1 = nI (t + 0) from by unfold tpM; rw [uI_eq, upd_e])]
    refine And.intro (Wdi_89 hW (vi rfl (by omega))) ?_
    rw [nI_clamp (show (t + 0) < 2 ^ 31 by omega)]
    rw [show vp_nar .byte (v >>> (nI 24 &&& 31)).toInt8.toInt32 = byF v 0 from rfl]
    refine And.intro rfl ?_
    refine And.intro (Wdo_88 hW) ?_
    rw [uI_ne (m := (tpM m t v 0)) (a := 89) (b := 88) (by omega)]
    rw [(show mI (tpM m t v 0) 88 1 = nI (t + 0) from by unfold tpM; rw [uI_eq, upd_e])]
    refine And.intro (Wdo_88 hW) ?_
    rw [show (uI (uI (tpM m t v 0) 89 ((t + 0)) (byF v 0)) 88 1 ((nI ((t + 0))) + nI 1)) = tpM m t v 1 from tpM_s]
    show Jj sc d 0 0 (mth 106) (pg P106 2).1 [some (.ref 88), some (.int v), some (.int ((nI 24) + -nI 8))] [] (tpM m t v 1) 0 0 Q
    rw [show (nI 24) + -nI 8 = nI 16 by decide]
    exact lapp1 hW ht hQ
theorem C106 {d : Nat} {m : Mm} {Q : Option Value → Mm → Prop} {t : Nat} {v : Int32} (hW : Wd m.2.2) (ht : t + 4 ≤ 1200) (hQ : Q none (tpM m t v 4)) (h88 : mI m 88 1 = nI t) : Cc d 0 0 106 [.ref 88, .int v] m Q := by
  refine ent (n := 72) z106 (by decide) rfl (by decide) (Nat.le_of_ble_eq_true rfl) (fun sc => ?_)
  show Jj sc d 0 0 (mth 106) (pg P106 2).1 [some (.ref 88), some (.int v), some (.int (nI 24))] [] m 0 0 Q
  have w9 := lapp0 (sc := sc) (d := d) (m := m) (Q := Q) (v := v) hW ht hQ
  rw [tpM_0 h88] at w9
  exact w9
