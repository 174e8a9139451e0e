/-! ===== the relation of the class's memory to the reference's ===== -/
def RelA (m : Mm) (a b : Nat) : Prop := (a = 1 ∧ b = 93 ∨ a = 93 ∧ b = 1) ∧ mR m 0 3 = some a ∧ mR m 87 4 = some b
def RelS (I : Nat → Nat → Int32) : Prop := I 142 1 = I 0 0 ∧ I 142 14 = I 0 1 ∧ I 142 2 = if I 0 0 = nI 4 then I 0 2 else -nI 1
def RelT (I : Nat → Nat → Int32) : Prop := ∃ t, t ≤ 1200 ∧ I 88 1 = nI t ∧ I 142 6 = nI t ∧ ∀ j, j < t → I 143 j = I 89 j ∧ bt (I 89 j)
/-- a state of the class at b against the reference's row -/
def SV (I : Nat → Nat → Int32) (b : Nat) (v : Nat → Int32) : Prop := v 0 = I b 1 ∧ (∀ g, g < 6 → v (1 + g) = I (b + 1) g) ∧ (∀ x, x < 36 → v (7 + x) = I (b + 2) x) ∧ (∀ x, x < 4 → v (43 + x) = I (b + 3) x) ∧ v 47 = I b 0
/-- a state's ranges -/
def SR (Λ I : Nat → Nat → Int32) (b : Nat) : Prop := iR (I b 0) 65537 ∧ (∀ g, g < nv (Λ 1 4) → iR (I (b + 1) g) 100) ∧ (∀ x, x < 36 → I (b + 2) x = -nI 2 ∨ iR (I (b + 2) x) (nv (Λ 1 4))) ∧ ∀ x, x < nv (Λ 1 10) → iR (I (b + 3) x) (nv (Λ 1 4))
def RelP (Λ I : Nat → Nat → Int32) : Prop := ∃ f w y, f < 12 ∧ w ≤ 12 ∧ y ≤ 3 ∧ I 24 2 = nI f ∧ I 24 3 = nI w ∧ I 24 4 = nI y ∧ I 142 21 = nI w ∧ I 142 22 = nI y ∧ (∀ i, i < w → SV I (27 + 4 * ((f + i) % 12)) (fun x => I 146 (48 * i + x)) ∧ SR Λ I (27 + 4 * ((f + i) % 12))) ∧ ∀ j, j < y → SV I (75 + 4 * j) (fun x => I 147 (48 * j + x)) ∧ SR Λ I (75 + 4 * j)
def RelL0 (m : Mm) (a : Nat) : Prop := mR m 142 3 = none ∧ mI m a 0 = nI 0 ∧ mI m a 1 = nI 0 ∧ (∀ s, s < 13 → mI m (a + 1) s = nI 0) ∧ mI m a 2 = nI 0 ∧ mI m 20 0 = nI 0 ∧ mI m 24 3 = nI 0 ∧ mI m 24 4 = nI 0
def RelL1 (m : Mm) (a q : Nat) : Prop := 158 ≤ q ∧ q + 29 ≤ mZ m ∧ NW m.2.2 q ∧ mR m 142 3 = some q ∧ (∃ T, LRI T (lam m a)) ∧ 0 < nv (mI m (a + 1) 0) ∧ ¬ laP (lam m a) ∧ LQ (lam m a) (lam m q) ∧ SR (lam m a) (mI m) 20
noncomputable def RelD (I : Nat → Nat → Int32) (a : Nat) : Prop := I 0 12 = nI 1 ∨ I 0 12 = nI 0 ∧ ∃ D g, ∀ f, f < 12 → I (112 + f) = runF (fun f => I (a + f)) (fun f => I (20 + f)) (nv (I (a + 1) 4)) (nv (I (a + 1) 8)) (I a 2) (-nI 1) g D f
def RelE (I : Nat → Nat → Int32) (a : Nat) : Prop := I 139 4 = nI 0 ∨ I 139 4 = nI 1 ∧ NI 720 (fun f => I (139 + f)) (rc (I (a + 12)) (I (a + 13)) 6 (2 ^ nv (I (a + 1) 11) - 1) (I a 3))
def RelX (m : Mm) (a : Nat) : Prop := RelT (mI m) ∧ SV (mI m) 20 (mI m 145) ∧ (RelL0 m a ∨ ∃ q, RelL1 m a q) ∧ RelP (lam m a) (mI m) ∧ RelD (mI m) a ∧ RelE (mI m) a
def Rel (z : Nat) (m : Mm) : Prop := Wd m.2.2 ∧ mZ m = z ∧ RelS (mI m) ∧ ∃ a b, RelA m a b ∧ RelX m a
/-- rows that nothing is kept in -/
def scr (r : Nat) : Prop := (124 ≤ r ∧ r ≤ 138) ∨ r = 140 ∨ r = 141 ∨ r = 144 ∨ (148 ≤ r ∧ r ≤ 157)
theorem LRI_19 {T : NT} {E F : Nat → Nat → Int32} (he : ∀ f, f < 19 → F f = E f) (h : LRI T E) : LRI T F := by
  unfold LRI CI WI NN VI V1 V2 V3 V4 V5 V6 V7 V8 at *
  rw [he 0 (by decide), he 1 (by decide), he 2 (by decide), he 3 (by decide), he 4 (by decide), he 5 (by decide), he 6 (by decide), he 9 (by decide), he 11 (by decide), he 12 (by decide), he 13 (by decide), he 14 (by decide), he 15 (by decide), he 16 (by decide), he 17 (by decide), he 18 (by decide)]
  exact h
theorem LQ_19 {Λ P E : Nat → Nat → Int32} (he : ∀ f, f < 19 → P f = Λ f) (h : LQ Λ E) : LQ P E := by
  unfold LQ Q0 Q1 Q2 Q3 Q4 Q5 Q6 Q7 Q8 Q9 Q10 Q11 Q12 at *
  rw [he 0 (by decide), he 1 (by decide), he 2 (by decide), he 3 (by decide), he 4 (by decide), he 5 (by decide), he 6 (by decide), he 7 (by decide), he 8 (by decide), he 9 (by decide), he 10 (by decide), he 11 (by decide), he 12 (by decide), he 13 (by decide), he 14 (by decide), he 16 (by decide), he 17 (by decide), he 18 (by decide)]
  exact h
theorem NI_2 {w : Nat} {E F : Nat → Nat → Int32} {S : Int32 → Prop} (h0 : F 0 = E 0) (h1 : F 1 = E 1) (h : NI w E S) : NI w F S := by
  unfold NI at *
  rw [h0, h1]
  exact h
theorem runF_19 {Λ P Ψ R D : Nat → Nat → Int32} {n np g : Nat} {l w : Int32} (h : ∀ f, f < 19 → P f = Λ f) (hg : ∀ f, f < 4 → R f = Ψ f) : runF P R n np l w g D = runF Λ Ψ n np l w g D := by
  have a2 := h 2 (by decide)
  have a3 := h 3 (by decide)
  have a4 := h 4 (by decide)
  have a5 := h 5 (by decide)
  have a6 := h 6 (by decide)
  have a7 := h 7 (by decide)
  have a8 := h 8 (by decide)
  have a9 := h 9 (by decide)
  have b0 := hg 0 (by decide)
  have b1 := hg 1 (by decide)
  have b2 := hg 2 (by decide)
  unfold runF hrQ hrS gdQ gdS seQ seS juF graF goF tOf sOf beQ beS beY beG inP
  simp only [a2, a3, a4, a5, a6, a7, a8, a9, b0, b1, b2]
theorem RelX_same {m n : Mm} {a b : Nat} (hA : RelA m a b) (h22 : n.2.2 = m.2.2) (hI : ∀ r, ¬ scr r → r ≠ 0 → r ≠ 142 → r ≠ 140 → mI n r = mI m r) (h12 : mI n 0 12 = mI m 0 12) (h6 : mI n 142 6 = mI m 142 6) (h21 : mI n 142 21 = mI m 142 21) (h22b : mI n 142 22 = mI m 142 22) (h140 : mI m 139 4 = nI 1 → mI n 140 = mI m 140) (h : RelX m a) : RelX n a := by
  obtain ⟨hT, hV, hL, hP, hD, hE⟩ := h
  have ha : a = 1 ∨ a = 93 := hA.1.elim (fun z => Or.inl z.1) (fun z => Or.inr z.1)
  have hi : ∀ r, (r < 124 ∨ r = 139 ∨ r = 143 ∨ r = 145 ∨ r = 146 ∨ r = 147 ∨ 158 ≤ r) → r ≠ 0 → mI n r = mI m r := fun r hr h0 => hI r (by unfold scr; omega) h0 (by omega) (by omega)
  have hla : ∀ f, f < 19 → mI n (a + f) = mI m (a + f) := fun f hf => hi _ (by omega) (by omega)
  have eZ : mZ n = mZ m := congrArg (fun w : WR => w.2.2) h22
  have eR : mR n = mR m := congrArg (fun w : WR => w.1) h22
  have ez0 : mI n a = mI m a := hla 0 (by decide)
  have ez1 : mI n (a + 1) = mI m (a + 1) := hla 1 (by decide)
  refine ⟨?_, ?_, ?_, ?_, ?_, ?_⟩
  · unfold RelT at hT ⊢
    rw [hi 88 (by omega) (by omega), hi 143 (by omega) (by omega), hi 89 (by omega) (by omega), h6]
    exact hT
  · unfold SV at hV ⊢
    rw [hi 145 (by omega) (by omega), hi 20 (by omega) (by omega), hi (20 + 1) (by omega) (by omega), hi (20 + 2) (by omega) (by omega), hi (20 + 3) (by omega) (by omega)]
    exact hV
  · rcases hL with hL | ⟨q, b1, b2, b3, b4, b5, b6, b7, b8, b9⟩
    · left
      unfold RelL0 at hL ⊢
      rw [eR, ez0, ez1, hi 20 (by omega) (by omega), hi 24 (by omega) (by omega)]
      exact hL
    · right
      refine ⟨q, b1, by rw [eZ]; exact b2, by rw [h22]; exact b3, by rw [eR]; exact b4, ?_, by rw [ez1]; exact b6, ?_, ?_, ?_⟩
      · obtain ⟨T, hI2⟩ := b5
        exact ⟨T, LRI_19 (fun f hf => hla f hf) hI2⟩
      · show ¬ laP (lam n a)
        unfold laP
        rw [show lam n a 0 = lam m a 0 from hla 0 (by decide), show lam n a 1 = lam m a 1 from hla 1 (by decide)]
        exact b7
      · exact LQ_19 (fun f hf => hla f hf) (LQ_29 (E := lam m q) (fun f hf => hi _ (by omega) (by omega)) b8)
      · unfold SR at b9 ⊢
        rw [show lam n a 1 = lam m a 1 from hla 1 (by decide), hi 20 (by omega) (by omega), hi (20 + 1) (by omega) (by omega), hi (20 + 2) (by omega) (by omega), hi (20 + 3) (by omega) (by omega)]
        exact b9
  · obtain ⟨f, w, y, cz1, cz2, cz3, cz4, cz5, cz6, cz7, cz8, cz9, cz10⟩ := hP
    refine ⟨f, w, y, cz1, cz2, cz3, by rw [hi 24 (by omega) (by omega)]; exact cz4, by rw [hi 24 (by omega) (by omega)]; exact cz5, by rw [hi 24 (by omega) (by omega)]; exact cz6, by rw [h21]; exact cz7, by rw [h22b]; exact cz8, fun i h9 => ?_, fun j h9 => ?_⟩
    · have hb : (f + i) % 12 < 12 := Nat.mod_lt _ (by decide)
      have := cz9 i h9
      generalize (f + i) % 12 = s at this hb ⊢
      unfold SV SR at this ⊢
      rw [hi 146 (by omega) (by omega), hi (27 + 4 * s) (by omega) (by omega), hi (27 + 4 * s + 1) (by omega) (by omega), hi (27 + 4 * s + 2) (by omega) (by omega), hi (27 + 4 * s + 3) (by omega) (by omega), show lam n a 1 = lam m a 1 from hla 1 (by decide)]
      exact this
    · have := cz10 j h9
      unfold SV SR at this ⊢
      rw [hi 147 (by omega) (by omega), hi (75 + 4 * j) (by omega) (by omega), hi (75 + 4 * j + 1) (by omega) (by omega), hi (75 + 4 * j + 2) (by omega) (by omega), hi (75 + 4 * j + 3) (by omega) (by omega), show lam n a 1 = lam m a 1 from hla 1 (by decide)]
      exact this
  · rcases hD with hD | ⟨d1, D, g, d2⟩
    · exact Or.inl (h12.trans hD)
    · refine Or.inr ⟨h12.trans d1, D, g, fun f hf => ?_⟩
      rw [hi (112 + f) (by omega) (by omega), d2 f hf, ez0, ez1]
      exact congrFun (runF_19 (fun f hf => (hla f hf).symm) (fun f hf => (hi (20 + f) (by omega) (by omega)).symm)) f
  · unfold RelE at hE ⊢
    rw [hi 139 (by omega) (by omega)]
    rcases hE with hE | ⟨g1, g2⟩
    · exact Or.inl hE
    · refine Or.inr ⟨g1, ?_⟩
      rw [hla 12 (by decide), hla 13 (by decide), ez0, ez1]
      refine NI_2 ?_ ?_ g2
      · exact hi 139 (by omega) (by omega)
      · exact h140 g1
