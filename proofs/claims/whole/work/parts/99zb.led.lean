theorem Rel_sc {z : Nat} {m n : Mm} (hR : Rel z m) (h22 : n.2.2 = m.2.2) (hI : ∀ r, ¬ scr r → r ≠ 142 → mI n r = mI m r) (h140 : mI n 140 = mI m 140) (h142 : ∀ k, k ≠ 0 → mI n 142 k = mI m 142 k) : Rel z n := by
  obtain ⟨hW, hz, hS, a, b, hA, hX⟩ := hR
  have ez0 : mI n 0 = mI m 0 := hI 0 (by unfold scr; omega) (by decide)
  refine ⟨by rw [h22]; exact hW, by rw [show mZ n = mZ m from congrArg (fun w : WR => w.2.2) h22]; exact hz, ?_, a, b, ⟨hA.1, by rw [show mR n = mR m from congrArg (fun w : WR => w.1) h22]; exact hA.2.1, by rw [show mR n = mR m from congrArg (fun w : WR => w.1) h22]; exact hA.2.2⟩, RelX_same hA h22 (fun r h1 _ h3 _ => hI r h1 h3) (by rw [ez0]) (h142 6 (by decide)) (h142 21 (by decide)) (h142 22 (by decide)) (fun _ => h140) hX⟩
  unfold RelS at hS ⊢
  rw [h142 1 (by decide), h142 14 (by decide), h142 2 (by decide), ez0]
  exact hS
/-- behind the class's days -/
theorem Rel_cuf {z : Nat} {m m9 : Mm} {a b n np : Nat} (hR : Rel z m) (hA : RelA m a b) (hX : RelX m a) (hn : mI m (a + 1) 4 = nI n) (hn6 : n ≤ 6) (hnp : mI m (a + 1) 8 = nI np) (hnp8 : np ≤ 8) (h : CUF n np m a m9) : Rel z m9 := by
  obtain ⟨hW, hz, hS, -⟩ := hR
  obtain ⟨D, g, hD⟩ := cur_ex hn hn6 hnp hnp8 hX.2.2.2.2.1
  have ez142 : mI m9 142 = mI m 142 := h.2.1 142 (by decide) (by decide)
  refine Rel_day (g := g) (D := D) hW hz hA hX h.1 (fun r _ g2 _ g4 => h.2.1 r g2 (by omega)) (fun _ => h.2.1 140 (by decide) (by decide)) hn hn6 hnp hnp8 h.2.2.2.1 (fun f hf => (h.2.2.2.2.1 f hf).trans (hD f hf)) (by rw [ez142]) (by rw [ez142]) (by rw [ez142]) ?_
  unfold RelS at hS ⊢
  rw [ez142, h.2.2.1 0 (by decide), h.2.2.1 1 (by decide), h.2.2.1 2 (by decide)]
  exact hS
theorem cur_cuf {m m9 : Mm} {a n np : Nat} (h : CUF n np m a m9) : curF m9 a n np 1 = curF m a n np 1 := by
  have e : curF m9 a n np = fun f => mI m9 (112 + f) := by
    unfold curF
    rw [if_pos h.2.2.2.1]
  rw [e]
  exact h.2.2.2.2.1 1 (by decide)
theorem FD_no {m : Mm} {a n np p : Nat} {x : Int32} (hJ : JE (lam m a) (lam m 20) n np) (hn : mI m (a + 1) 4 = nI n) (hn6 : n ≤ 6) (hnp : mI m (a + 1) 8 = nI np) (hnp8 : np ≤ 8) (hD : RelD (mI m) a) (h : FD (curF m a n np 1) x p) : p < np := by
  obtain ⟨D, g, hD⟩ := cur_ex hn hn6 hnp hnp8 hD
  obtain ⟨E, hE⟩ := FE_ex (Λ := lam m a) (Ψ := lam m 20) (D := D) (g0 := g) (l := mI m a 2) (w := -nI 1) hJ hn6 (fun z => absurd rfl z)
  rcases Nat.lt_or_ge p np with z | z
  · exact z
  · have h3 := ((hE p h.1).2 (fun y => absurd y.1 (by omega))).1
    rw [← hD 1 (by decide)] at h3
    exact absurd (h3.symm.trans h.2.1) (by decide)
theorem ld0 {sc : Nat × (Nat → Int32)} {d : Nat} {m : Mm} {Q : Option Value → Mm → Prop} {x : Int32} (hW : Wd m.2.2) (hL0 : mR m 142 3 = none) (hQ : Q (some (.int (nI 0))) (uI (uI m 142 0 (nI 0)) 142 0 (nI 1))) : Jj sc d 0 0 (mth 337) (pg P337 12).1 [some (.ref 142), some (.int x), some (.int (nI 0)), some (.int (nI 0))] [] (uI m 142 0 (nI 0)) 0 0 Q := by
  refine J_w z337 (i := 12) (by decide) 98 ?_
  refine And.intro (Wdo_142 hW) (Exists.intro _ (And.intro (show va_rf (mR (uI m 142 0 (nI 0)) 142 3) = .null by rw [show mR (uI m 142 0 (nI 0)) = mR m from rfl, hL0]; rfl) ?_))
  refine And.intro (Wdo_142 hW) ?_
  refine And.intro ⟨rfl, trivial, Nat.le_refl _, Nat.le_refl _⟩ ?_
  exact hQ
theorem ledR0 {d : Nat} {m : Mm} {Q : Option Value → Mm → Prop} {z : Nat} {x : Int32} (hd : 16 ≤ d) (hR : Rel z m) (hL0 : mR m 142 3 = none) (h0 : ∀ m2, Rel z m2 → mI m2 142 0 = nI 1 → Q (some (.int (nI 0))) m2) : Cc d 0 0 337 [.ref 142, .int x] m Q := by
  have hW := hR.1
  refine ent (n := 98) z337 (by decide) rfl (by decide) (Nat.le_of_ble_eq_true rfl) (fun sc => ?_)
  refine And.intro (Wdo_142 hW) ?_
  refine And.intro (Wdo_142 hW) (Exists.intro _ (And.intro (show va_rf (mR m 142 3) = .null by rw [hL0]; rfl) ?_))
  show Jj sc d 0 0 (mth 337) (pg P337 12).1 [some (.ref 142), some (.int x), some (.int (nI 0)), some (.int (nI 0))] [] (uI m 142 0 (nI 0)) 0 0 Q
  exact ld0 hW hL0 (h0 _ (Rel_sc hR uI_22 (fun r _ h => by rw [uI_ne h, uI_ne h]) (by rw [uI_ne (by decide), uI_ne (by decide)]) (fun k hk => by rw [uI_eq, upd_o hk, uI_eq, upd_o hk])) (by rw [uI_eq, upd_e]))
theorem ledR1 {d : Nat} {m : Mm} {Q : Option Value → Mm → Prop} {z : Nat} {x : Int32} (hd : 16 ≤ d) (hR : Rel z m) {a b n np q : Nat} (hA : RelA m a b) (hX : RelX m a) (hL1 : RelL1 m a q) (hn4 : mI m (a + 1) 4 = nI n) (bn4 : n ≤ 6) (hn8 : mI m (a + 1) 8 = nI np) (bn8 : np ≤ 8) (hn2 : ∃ nt, nt ≤ 6 ∧ mI m (a + 1) 2 = nI nt) (h1 : ∀ p m2, Rel z m2 → mJ m2 = mJ m → mI m2 142 0 = nI 0 → FD (curF m a n np 1) x p → Q (some (.int (nI p))) m2) (h0 : ∀ m2, Rel z m2 → mI m2 142 0 = nI 1 → (∀ p, ¬ FD (curF m a n np 1) x p) → Q (some (.int (nI 0))) m2) : Cc d 0 0 337 [.ref 142, .int x] m Q := by
  have hW := hR.1
  obtain ⟨nt, hnt6, hnt⟩ := hn2
  have hq1 := hL1
  obtain ⟨hq, w, u, ha0, ha1, hq0, hq1w, hw6, hu4, hwu, hgr⟩ := RL_q hq1
  obtain ⟨h158, hqz, hN, h3, ⟨T, hI⟩, hst, hla, hLQ, hSR⟩ := hq1
  have hJEG := JE_of hI hSR hnt hnt6 hn4 bn4 hn8 bn8
  obtain ⟨DD, gg, hDg⟩ := cur_ex hn4 bn4 hn8 bn8 hX.2.2.2.2.1
  refine ent (n := 98) z337 (by decide) rfl (by decide) (Nat.le_of_ble_eq_true rfl) (fun sc => ?_)
  refine And.intro (Wdo_142 hW) ?_
  refine And.intro (Wdo_142 hW) (Exists.intro _ (And.intro hq ?_))
  refine And.intro ⟨by omega, Nat.le_of_ble_eq_true rfl, Nat.le_refl _, Nat.le_refl _⟩ (And.intro (Wdo_142 hW) ?_)
  have t22 : (uI m 142 0 (nI 0)).2.2 = m.2.2 := uI_22
  have tI : ∀ r, r ≠ 142 → mI (uI m 142 0 (nI 0)) r = mI m r := fun r h => uI_ne h
  have t142 : ∀ k, k ≠ 0 → mI (uI m 142 0 (nI 0)) 142 k = mI m 142 k := fun k hk => by rw [uI_eq, upd_o hk]
  have t0 : mI (uI m 142 0 (nI 0)) 142 0 = nI 0 := by rw [uI_eq, upd_e]
  have tJ : mJ (uI m 142 0 (nI 0)) = mJ m := rfl
  generalize (uI m 142 0 (nI 0)) = m8 at t22 tI t142 t0 tJ ⊢
  have hW0 := hW
  have hW : Wd m8.2.2 := by rw [t22]; exact hW0
  have hN : NW m8.2.2 q := by rw [t22]; exact hN
  have hq : va_rf (mR m8 142 3) = .ref q := by rw [show mR m8 = mR m from congrArg (fun w : WR => w.1) t22]; exact hq
  have hRQ : RQD m8 q (lam m a) (lam m 20) n np := rq_of hI hSR hnt hnt6 hn4 bn4 hn8 bn8 hLQ hX.2.1 h158 (fun r hr => tI r (by omega))
  have hlaw : mI m8 q 3 = mI m a 2 := by rw [tI q (by omega)]; exact hLQ.1.2.2.2.1
  have hpp := (bput_self (m := m8) (x := 148) (n := 7)).symm
  generalize (fun f => mI m8 (148 + f)) = DE9 at hpp
  rw [hpp]
  refine D277 (g0 := gg) (D := DD) (by omega) hW hN hq hRQ (fun ER hFE => ?_)
  clear hpp
  rw [hlaw] at hFE
  have sJ : mJ (bput m8 148 7 ER) = mJ m8 := rfl
  have s22 : (bput m8 148 7 ER).2.2 = m8.2.2 := bput_22
  have sI : ∀ r, r < 148 ∨ 155 ≤ r → mI (bput m8 148 7 ER) r = mI m8 r := fun r hr => by
    rcases Nat.lt_or_ge r 148 with z9 | z9
    · exact bput_lo (by omega)
    · exact bput_hi (by omega)
  have sE : ∀ f, f < 7 → mI (bput m8 148 7 ER) (148 + f) = ER f := fun f hf => bput_r hf
  generalize bput m8 148 7 ER = m7 at s22 sI sE sJ ⊢
  have hW : Wd m7.2.2 := by rw [s22]; exact hW
  have hN : NW m7.2.2 q := by rw [s22]; exact hN
  have hq : va_rf (mR m7 142 3) = .ref q := by rw [show mR m7 = mR m8 from congrArg (fun w : WR => w.1) s22]; exact hq
  have hnm : mI m7 q 10 = nI np := by rw [sI q (by omega), tI q (by omega)]; exact hLQ.1.2.2.2.2.2.2.2.2.2.2.1.trans hn8
  have hvm : ∀ p, p < np → mI m7 150 p = curF m a n np 1 p := fun p hp => by
    rw [show mI m7 150 = ER 2 from sE 2 (by decide), hDg 1 (by decide)]
    exact ((hFE p (by omega)).1 ⟨hp, Or.inl rfl⟩).1.2.2.1
  have hR7 : Rel z m7 := Rel_sc hR (s22.trans t22) (fun r g1 g2 => (sI r (Classical.byContradiction fun z9 => g1 (by unfold scr; omega))).trans (tI r g2)) ((sI 140 (by decide)).trans (tI 140 (by decide))) (fun k hk => by rw [sI 142 (by decide)]; exact t142 k hk)
  show Jj sc d 0 0 (mth 337) (pg P337 12).1 [some (.ref 142), some (.int x), some (.int (nI 0)), some (.int (nI 0))] [] m7 0 0 Q
  refine lld (f := curF m a n np 1) (np := np) (by omega) hW hN hq h158 bn8 hnm hvm (fun p hp hf => h1 p m7 hR7 (sJ.trans tJ) (by rw [sI 142 (by decide)]; exact t0) hf) (fun hno => ?_) (np + 1) 0 (Nat.zero_le _) (by omega) (fun q1 hq1 => absurd hq1 (Nat.not_lt_zero _))
  refine h0 _ (Rel_sc hR7 uI_22 (fun r _ h => uI_ne h) (uI_ne (by decide)) (fun k hk => by rw [uI_eq, upd_o hk])) (by rw [uI_eq, upd_e]) (fun p hf => hno p (FD_no hJEG.1 hn4 bn4 hn8 bn8 hX.2.2.2.2.1 hf) hf)
