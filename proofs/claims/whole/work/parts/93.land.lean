theorem RelX_g {m n : Mm} {a b : Nat} (hA : RelA m a b) (hZ : mZ m ≤ mZ n) (hR3 : mR n 142 3 = mR m 142 3) (hNW : ∀ q, 158 ≤ q → q + 29 ≤ mZ m → NW m.2.2 q → NW n.2.2 q) (hI : ∀ r, ¬ scr r → r ≠ 0 → r ≠ 142 → r ≠ 140 → r ≠ 88 → r ≠ 89 → r ≠ 143 → (r < mZ m) → (r < 1 ∨ 19 < r ∨ a = 1) → (r < 93 ∨ 111 < r ∨ a = 93) → (r < 87 ∨ 92 < r) → mI n r = mI m r) (hz158 : 158 ≤ mZ m) (h12 : mI n 0 12 = mI m 0 12) (hT9 : RelT (mI n)) (h21 : mI n 142 21 = mI m 142 21) (h22b : mI n 142 22 = mI m 142 22) (h140 : mI m 139 4 = nI 1 → mI n 140 = mI m 140) (h : RelX m a) : RelX n a := by
  obtain ⟨hT, hV, hL, hP, hD, hE⟩ := h
  have ha : a = 1 ∨ a = 93 := hA.1.elim (fun z => Or.inl z.1) (fun z => Or.inr z.1)
  have hi : ∀ r, ((r < 124 ∧ r ≠ 88 ∧ r ≠ 89) ∨ r = 139 ∨ r = 145 ∨ r = 146 ∨ r = 147 ∨ 158 ≤ r) → r ≠ 0 → r < mZ m → (r < 1 ∨ 19 < r ∨ a = 1) → (r < 93 ∨ 111 < r ∨ a = 93) → (r < 87 ∨ 92 < r) → mI n r = mI m r := fun r hr h0 hm h7 h8 h9 => hI r (by unfold scr; omega) h0 (by omega) (by omega) (by omega) (by omega) (by omega) hm h7 h8 h9
  have hla : ∀ f, f < 19 → mI n (a + f) = mI m (a + f) := fun f hf => hi _ (by omega) (by omega) (by omega) (by omega) (by omega) (by omega)
  have ez0 : mI n a = mI m a := hla 0 (by decide)
  have ez1 : mI n (a + 1) = mI m (a + 1) := hla 1 (by decide)
  refine ⟨?_, ?_, ?_, ?_, ?_, ?_⟩
  · exact hT9
  · unfold SV at hV ⊢
    rw [hi 145 (by omega) (by omega) (by omega) (by omega) (by omega) (by omega), hi 20 (by omega) (by omega) (by omega) (by omega) (by omega) (by omega), hi (20 + 1) (by omega) (by omega) (by omega) (by omega) (by omega) (by omega), hi (20 + 2) (by omega) (by omega) (by omega) (by omega) (by omega) (by omega), hi (20 + 3) (by omega) (by omega) (by omega) (by omega) (by omega) (by omega)]
    exact hV
  · rcases hL with hL | ⟨q, b1, b2, b3, b4, b5, b6, b7, b8, b9⟩
    · left
      unfold RelL0 at hL ⊢
      rw [hR3, ez0, ez1, hi 20 (by omega) (by omega) (by omega) (by omega) (by omega) (by omega), hi 24 (by omega) (by omega) (by omega) (by omega) (by omega) (by omega)]
      exact hL
    · right
      refine ⟨q, b1, Nat.le_trans b2 hZ, hNW q b1 b2 b3, by rw [hR3]; exact b4, ?_, by rw [ez1]; exact b6, ?_, ?_, ?_⟩
      · obtain ⟨T, hI2⟩ := b5
        exact ⟨T, LRI_19 (fun f hf => hla f hf) hI2⟩
      · show ¬ laP (lam n a)
        unfold laP
        rw [show lam n a 0 = lam m a 0 from hla 0 (by decide), show lam n a 1 = lam m a 1 from hla 1 (by decide)]
        exact b7
      · exact LQ_19 (fun f hf => hla f hf) (LQ_29 (E := lam m q) (fun f hf => hi _ (by omega) (by omega) (by omega) (by omega) (by omega) (by omega)) b8)
      · unfold SR at b9 ⊢
        rw [show lam n a 1 = lam m a 1 from hla 1 (by decide), hi 20 (by omega) (by omega) (by omega) (by omega) (by omega) (by omega), hi (20 + 1) (by omega) (by omega) (by omega) (by omega) (by omega) (by omega), hi (20 + 2) (by omega) (by omega) (by omega) (by omega) (by omega) (by omega), hi (20 + 3) (by omega) (by omega) (by omega) (by omega) (by omega) (by omega)]
        exact b9
  · obtain ⟨f, w, y, cz1, cz2, cz3, cz4, cz5, cz6, cz7, cz8, cz9, cz10⟩ := hP
    refine ⟨f, w, y, cz1, cz2, cz3, by rw [hi 24 (by omega) (by omega) (by omega) (by omega) (by omega) (by omega)]; exact cz4, by rw [hi 24 (by omega) (by omega) (by omega) (by omega) (by omega) (by omega)]; exact cz5, by rw [hi 24 (by omega) (by omega) (by omega) (by omega) (by omega) (by omega)]; exact cz6, by rw [h21]; exact cz7, by rw [h22b]; exact cz8, fun i h9 => ?_, fun j h9 => ?_⟩
    · have hb : (f + i) % 12 < 12 := Nat.mod_lt _ (by decide)
      have := cz9 i h9
      generalize (f + i) % 12 = s at this hb ⊢
      unfold SV SR at this ⊢
      rw [hi 146 (by omega) (by omega) (by omega) (by omega) (by omega) (by omega), hi (27 + 4 * s) (by omega) (by omega) (by omega) (by omega) (by omega) (by omega), hi (27 + 4 * s + 1) (by omega) (by omega) (by omega) (by omega) (by omega) (by omega), hi (27 + 4 * s + 2) (by omega) (by omega) (by omega) (by omega) (by omega) (by omega), hi (27 + 4 * s + 3) (by omega) (by omega) (by omega) (by omega) (by omega) (by omega), show lam n a 1 = lam m a 1 from hla 1 (by decide)]
      exact this
    · have := cz10 j h9
      unfold SV SR at this ⊢
      rw [hi 147 (by omega) (by omega) (by omega) (by omega) (by omega) (by omega), hi (75 + 4 * j) (by omega) (by omega) (by omega) (by omega) (by omega) (by omega), hi (75 + 4 * j + 1) (by omega) (by omega) (by omega) (by omega) (by omega) (by omega), hi (75 + 4 * j + 2) (by omega) (by omega) (by omega) (by omega) (by omega) (by omega), hi (75 + 4 * j + 3) (by omega) (by omega) (by omega) (by omega) (by omega) (by omega), show lam n a 1 = lam m a 1 from hla 1 (by decide)]
      exact this
  · rcases hD with hD | ⟨d1, D, g, d2⟩
    · exact Or.inl (h12.trans hD)
    · refine Or.inr ⟨h12.trans d1, D, g, fun f hf => ?_⟩
      rw [hi (112 + f) (by omega) (by omega) (by omega) (by omega) (by omega) (by omega), d2 f hf, ez0, ez1]
      exact congrFun (runF_19 (fun f hf => (hla f hf).symm) (fun f hf => (hi (20 + f) (by omega) (by omega) (by omega) (by omega) (by omega) (by omega)).symm)) f
  · unfold RelE at hE ⊢
    rw [hi 139 (by omega) (by omega) (by omega) (by omega) (by omega) (by omega)]
    rcases hE with hE | ⟨g1, g2⟩
    · exact Or.inl hE
    · refine Or.inr ⟨g1, ?_⟩
      rw [hla 12 (by decide), hla 13 (by decide), ez0, ez1]
      refine NI_2 ?_ ?_ g2
      · exact hi 139 (by omega) (by omega) (by omega) (by omega) (by omega) (by omega)
      · exact h140 g1
theorem NW_t {m n : Mm} {q : Nat} (h : NW m.2.2 q) (hZ : mZ m ≤ mZ n) (hS : ∀ r, q ≤ r → r < q + 29 → mS n r = mS m r) (hR : mR n q = mR m q) : NW n.2.2 q := by
  have e : n.2.2.1 q = m.2.2.1 q := hR
  have z : m.2.2.2.2 ≤ n.2.2.2.2 := hZ
  have s0 : ∀ f, f < 29 → n.2.2.2.1 (q + f) = m.2.2.2.1 (q + f) := fun f hf => hS (q + f) (by omega) (by omega)
  unfold NW at h ⊢
  rw [e, show n.2.2.2.1 q = m.2.2.2.1 q from s0 0 (by decide), s0 1 (by decide), s0 2 (by decide), s0 3 (by decide), s0 4 (by decide), s0 5 (by decide), s0 6 (by decide), s0 7 (by decide), s0 8 (by decide), s0 9 (by decide), s0 10 (by decide), s0 11 (by decide), s0 12 (by decide), s0 13 (by decide), s0 14 (by decide), s0 15 (by decide), s0 16 (by decide), s0 17 (by decide), s0 18 (by decide), s0 19 (by decide), s0 20 (by decide), s0 21 (by decide), s0 22 (by decide), s0 23 (by decide), s0 24 (by decide), s0 25 (by decide), s0 26 (by decide), s0 27 (by decide), s0 28 (by decide)]
  exact ⟨Nat.le_trans h.1 z, h.2⟩
theorem rd_p {B : Nat → Int32} {n : Nat} : ∀ (r : Nat) {T : NT} {E E1 : Nat → Nat → Int32} {i : Nat}, LRI T E → rdF B n r T E i = .inr E1 → 0 < nv (E1 1 0)
  | 0, T, E, E1, i, _, h => by cases h
  | r + 1, T, E, E1, i, hI, h => by
    rcases ho : olF T E B n i with e | ⟨s, T1, Λ1, j⟩
    · rw [rd_f ho] at h
      cases h
    · rw [rd_o ho] at h
      by_cases hk : kiF B n j = 0
      · rw [if_pos hk] at h
        by_cases hl : laP (bump Λ1 s)
        · rw [if_pos hl] at h
          cases h
        · rw [if_neg hl] at h
          rw [← Sum.inr.inj h]
          exact ol_p ho hI
      · rw [if_neg hk] at h
        obtain ⟨x, -, h2⟩ := rb_r h
        exact rd_p r (ol_k hI ho).1 h2
