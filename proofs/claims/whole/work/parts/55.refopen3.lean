theorem op_1 {T : NT} {E : Nat → Nat → Int32} {B : Nat → Int32} {n i : Nat} {w : Int32} (hI : LRI T E) (hK : LKp E) (hw : w = E 0 0) (h2 : kiF B n i = 2) (hs : opS B n i = nI 1) : opF E B n i = rb (bgF (nI (nv (E 1 1))) (if w = 0 then -nI 1 else E 0 1) w B n i) (fun j => .inr (1, j)) := by
  obtain ⟨hC, hWI, hN, hV⟩ := hI
  have hc0 := hC 0 (by decide)
  have hc2 : nv (E 1 0) ≤ 1 := hc0.2
  have hc1 := hC 1 (by decide)
  have hc4 : nv (E 1 1) ≤ 4 := hc1.2
  have hw1 := hWI.2.2.1
  have hw2 := hWI.2.2.2.1
  have hw3 := hWI.2.2.2.2
  unfold opF bgF
  rw [hs, show nv (nI 1) = 1 from nv_nI (by omega), hw, if_neg (fun z => z.elim (fun y => y h2) (fun y => y.elim (by decide) (by decide)))]
  rcases Nat.eq_zero_or_pos (nv (E 1 0)) with q | q
  · have hk := hK.1 q
    have h10 : E 1 0 = nI 0 := by rw [hc0.1, q]
    have h11 := hk.2 1 (by decide)
    rw [if_pos ⟨by decide, by rw [h10]; decide⟩, h11, if_pos hk.1, if_pos hk.1, if_neg (show ¬ nI 0 = -nI 1 by decide)]
    rfl
  · have hk := hK.2 q
    have hlt : 0 < E 1 0 := by
      rw [hc0.1]
      exact nI_lt q (by omega)
    have hw0 : ¬ E 0 0 = 0 := fun z => by
      rw [z] at hk
      exact absurd hk (by decide)
    rw [if_neg (fun z => z.2 hlt), if_neg (fun z => z.1.elim (by decide) (by decide)), if_pos rfl, if_neg hw0, if_neg hw0]
    by_cases hf : nv (E 1 1) = nv (E 0 1)
    · have hle : E 0 1 ≤ E 1 1 := by
        rw [hw1, hc1.1, hf]
        exact nI_le (Nat.le_refl _) (by omega)
      rw [if_pos hle, if_pos ((congrArg nI hf).trans hw1.symm)]
      rfl
    · have hle : ¬ E 0 1 ≤ E 1 1 := by
        rw [hw1, hc1.1]
        exact Int32.not_le.mpr (nI_lt (by omega) (by omega))
      rw [if_neg hle, if_neg (fun z => hf ((nI_eq (by omega) (by omega)).mp (z.trans hw1)))]
      rfl
