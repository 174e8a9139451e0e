theorem Rel_fin {z : Nat} {m n : Mm} {x : Int32} (hR : Rel z m) (h22 : n.2.2 = m.2.2) (hI : ∀ r, ¬ scr r → r ≠ 0 → r ≠ 142 → mI n r = mI m r) (h140 : mI m 139 4 = nI 1 → mI n 140 = mI m 140) (h00 : mI n 0 0 = x) (h01 : mI n 0 1 = mI m 0 1) (h12 : mI n 0 12 = mI m 0 12) (g1 : mI n 142 1 = x) (g2 : mI n 142 2 = -nI 1) (g14 : mI n 142 14 = mI m 142 14) (g6 : mI n 142 6 = mI m 142 6) (g21 : mI n 142 21 = mI m 142 21) (g22 : mI n 142 22 = mI m 142 22) (hx : ¬ x = nI 4) : Rel z n := by
  obtain ⟨hW, hz, hS, a, b, hA, hX⟩ := hR
  have eZ : mZ n = mZ m := congrArg (fun w : WR => w.2.2) h22
  have eR : mR n = mR m := congrArg (fun w : WR => w.1) h22
  refine ⟨by rw [h22]; exact hW, eZ.trans hz, ⟨g1.trans h00.symm, ?_, ?_⟩, a, b, ?_, RelX_same hA h22 (fun r h1 h2 h3 _ => hI r h1 h2 h3) h12 g6 g21 g22 h140 hX⟩
  · rw [g14, h01]; exact hS.2.1
  · rw [h00, if_neg hx, g2]
  · unfold RelA at hA ⊢
    rw [eR]
    exact hA
/-- a plain answer of both -/
theorem Rel_ans {z : Nat} {m : Mm} {x : Int32} (hR : Rel z m) (hx : ¬ x = nI 4) : Rel z (uI (uI (uI (uI m 0 0 x) 142 0 (nI 0)) 142 1 x) 142 2 (-nI 1)) := by
  refine Rel_fin (x := x) hR (by rw [uI_22, uI_22, uI_22, uI_22]) (fun r _ h0 h2 => by rw [uI_ne h2, uI_ne h2, uI_ne h2, uI_ne h0]) (fun _ => by rw [uI_ne (by decide), uI_ne (by decide), uI_ne (by decide), uI_ne (by decide)]) ?_ ?_ ?_ ?_ ?_ ?_ ?_ ?_ ?_ hx
  · rw [uI_ne (by decide), uI_ne (by decide), uI_ne (by decide), uI_eq]; rfl
  · rw [uI_ne (by decide), uI_ne (by decide), uI_ne (by decide), uI_eq]; rfl
  · rw [uI_ne (by decide), uI_ne (by decide), uI_ne (by decide), uI_eq]; rfl
  · rw [uI_eq, uI_eq, uI_eq, uI_ne (by decide)]; rfl
  · rw [uI_eq]; rfl
  · rw [uI_eq, uI_eq, uI_eq, uI_ne (by decide)]; rfl
  · rw [uI_eq, uI_eq, uI_eq, uI_ne (by decide)]; rfl
  · rw [uI_eq, uI_eq, uI_eq, uI_ne (by decide)]; rfl
  · rw [uI_eq, uI_eq, uI_eq, uI_ne (by decide)]; rfl
/-- a question that says nothing of trouble -/
theorem Rel_q {z : Nat} {m : Mm} (hR : Rel z m) : Rel z (uI m 142 0 (nI 0)) := by
  obtain ⟨hW, hz, hS, a, b, hA, hX⟩ := hR
  have e : ∀ r, r ≠ 0 → mI (uI m 142 0 (nI 0)) 142 r = mI m 142 r := fun r hr => by rw [uI_eq, upd_o hr]
  have ez0 : ∀ r, r ≠ 142 → mI (uI m 142 0 (nI 0)) r = mI m r := fun r hr => uI_ne hr
  refine ⟨hW, hz, ?_, a, b, hA, RelX_same hA uI_22 (fun r _ _ h3 _ => ez0 r h3) (by rw [ez0 0 (by decide)]) (e 6 (by decide)) (e 21 (by decide)) (e 22 (by decide)) (fun _ => ez0 140 (by decide)) hX⟩
  unfold RelS at hS ⊢
  rw [e 1 (by decide), e 14 (by decide), e 2 (by decide), ez0 0 (by decide)]
  exact hS
theorem RelA_L {m : Mm} {a b : Nat} (hW : Wd m.2.2) (hA : RelA m a b) : LW m.2.2 a ∧ LW m.2.2 b ∧ (a = 1 ∨ a = 93) ∧ va_rf (mR m 0 3) = .ref a ∧ va_rf (mR m 87 4) = .ref b := by
  obtain ⟨h, h1, h2⟩ := hA
  refine ⟨?_, ?_, h.elim (fun z => Or.inl z.1) (fun z => Or.inr z.1), by rw [h1]; rfl, by rw [h2]; rfl⟩
  · rcases h with ⟨ez1, -⟩ | ⟨ez1, -⟩
    · rw [ez1]; exact Wd_L1 hW
    · rw [ez1]; exact Wd_L2 hW
  · rcases h with ⟨-, ez1⟩ | ⟨-, ez1⟩
    · rw [ez1]; exact Wd_L2 hW
    · rw [ez1]; exact Wd_L1 hW
theorem RL_n {m : Mm} {a s f : Nat} (h : RelL0 m a ∨ ∃ q, RelL1 m a q) (hs : s < 13) (hf : ∀ Λ E : Nat → Nat → Int32, Q0 Λ E → E 0 f = Λ 1 s) : ∃ n, mI m (a + 1) s = nI n ∧ n ≤ rmN s ∧ LN m f n := by
  rcases h with h | ⟨q, b1, b2, b3, b4, ⟨T, b5⟩, b6, b7, b8, b9⟩
  · exact ⟨0, h.2.2.2.1 s hs, Nat.zero_le _, Or.inl ⟨h.1, rfl⟩⟩
  · have hc := b5.1 s hs
    exact ⟨nv (lam m a 1 s), hc.1, hc.2, Or.inr ⟨q, b1, b4, b3, (hf _ _ b8.1).trans hc.1⟩⟩
theorem RL_1 {m : Mm} {a s n : Nat} (h : RelL0 m a ∨ ∃ q, RelL1 m a q) (hs : s < 13) (hn : mI m (a + 1) s = nI n) (h0 : 0 < n) (h9 : n < 2 ^ 31) : ∃ q, RelL1 m a q := by
  rcases h with h | h
  · have e := (h.2.2.2.1 s hs).symm.trans hn
    exact absurd ((nI_eq (by decide) h9).mp e) (by omega)
  · exact h
theorem iR_p {x : Int32} {n : Nat} (h : iR x n) : 0 < n := by
  obtain ⟨w, hw, -⟩ := h
  omega
theorem RL_st {m : Mm} {a : Nat} (h : RelL0 m a ∨ ∃ q, RelL1 m a q) : (RelL0 m a ∧ ¬ 0 < mI m (a + 1) 0) ∨ ∃ q, RelL1 m a q ∧ 0 < mI m (a + 1) 0 := by
  rcases h with h | ⟨q, h⟩
  · refine Or.inl ⟨h, ?_⟩
    rw [h.2.2.2.1 0 (by decide)]
    decide
  · refine Or.inr ⟨q, h, ?_⟩
    obtain ⟨T, hI⟩ := h.2.2.2.2.1
    have hc := hI.1 0 (by decide)
    have e : mI m (a + 1) 0 = nI (nv (mI m (a + 1) 0)) := hc.1
    have hb : nv (mI m (a + 1) 0) ≤ 1 := hc.2
    rw [e]
    exact nI_lt h.2.2.2.2.2.1 (by omega)
/-- what stands of a land of both -/
theorem RL_q {m : Mm} {a q : Nat} (h : RelL1 m a q) : va_rf (mR m 142 3) = .ref q ∧ (∃ w u, mI m a 0 = nI w ∧ mI m a 1 = nI u ∧ mI m q 0 = nI w ∧ mI m q 1 = nI u ∧ w ≤ 6 ∧ u ≤ 4 ∧ w * u ≤ 24 ∧ mI m q 4 = grF (mI m (a + 2)) (w * u)) := by
  obtain ⟨b1, b2, b3, b4, ⟨T, b5⟩, b6, b7, b8, b9⟩ := h
  have hw := b5.2.1
  refine ⟨by rw [b4]; rfl, nv (mI m a 0), nv (mI m a 1), hw.1, hw.2.2.1, b8.1.1.trans hw.1, b8.1.2.1.trans hw.2.2.1, hw.2.1, hw.2.2.2.1, Nat.mul_le_mul hw.2.1 hw.2.2.2.1, ?_⟩
  have e : nv (lam m a 1 1) = nv (mI m a 1) := by
    have h1 : nv (lam m a 1 1) ≤ nv (mI m a 1) := hw.2.2.2.2
    rcases Nat.lt_or_ge (nv (lam m a 1 1)) (nv (mI m a 1)) with z | z
    · refine absurd (Or.inl ?_) b7
      rw [(b5.1 1 (by decide)).1, hw.2.2.1]
      exact nI_lt z (by have h4 : nv (lam m a 0 1) ≤ 4 := hw.2.2.2.1; have : nv (mI m a 1) ≤ 4 := h4; omega)
    · omega
  have h4 : mI m q 4 = grF (mI m (a + 2)) (nv (lam m a 1 1) * nv (lam m a 0 0)) := b8.1.2.2.2.2.1
  rw [h4, e, Nat.mul_comm]
  rfl
