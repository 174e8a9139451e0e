theorem op_0 {T : NT} {E : Nat → Nat → Int32} {B : Nat → Int32} {n i : Nat} {w : Int32} (hI : LRI T E) (hK : LKp E) (hw : w = E 0 0) (h2 : kiF B n i = 2) (hs : opS B n i = nI 0) : opF E B n i = rb (if 0 < w then (.inl (3, plF B n i) : Rs Nat) else .inr (nxF B n i)) (fun j => .inr (0, j)) := by
  obtain ⟨hC, hWI, hN, hV⟩ := hI
  have hc0 := hC 0 (by decide)
  have hc2 : nv (E 1 0) ≤ 1 := hc0.2
  unfold opF
  rw [hs, show nv (nI 0) = 0 from nv_nI (by omega), hw, if_neg (fun z => z.elim (fun y => y h2) (fun y => y.elim (by decide) (by decide))), if_neg (fun z => z.1 rfl)]
  rcases Nat.eq_zero_or_pos (nv (E 1 0)) with q | q
  · have hk := hK.1 q
    have h10 : E 1 0 = nI 0 := by rw [hc0.1, q]
    rw [hk.1, h10, if_neg (fun z => absurd z.2 (by decide)), if_neg (show ¬ nI 0 = nI 1 by decide), if_neg (by decide), if_neg (show ¬ (0 : Int32) < 0 by decide)]
    rfl
  · have hk := hK.2 q
    have hlt : 0 < E 1 0 := by
      rw [hc0.1]
      exact nI_lt q (by omega)
    have hw0 : 0 < E 0 0 := by
      rw [hWI.1]
      exact nI_lt (show 0 < nv (E 0 0) by omega) (by have := hWI.2.1; omega)
    rw [if_pos ⟨Or.inl rfl, hlt⟩, if_pos hw0]
    rfl
theorem op_3 {T : NT} {E : Nat → Nat → Int32} {B : Nat → Int32} {n i : Nat} {w x : Int32} (hI : LRI T E) (hK : LKp E) (hw : w = E 0 0) (hl : x = -nI 1 ↔ nv (E 1 3) = 0) (h2 : kiF B n i = 2) (hs : opS B n i = nI 3) : opF E B n i = rb (if x = -nI 1 then bgF (nI 0) (nI 1) w B n i else (.inl (3, plF B n i) : Rs Nat)) (fun j => .inr (3, j)) := by
  obtain ⟨hC, hWI, hN, hV⟩ := hI
  have hc0 := hC 0 (by decide)
  have hc2 : nv (E 1 0) ≤ 1 := hc0.2
  have hc3 := hC 3 (by decide)
  have hc4 : nv (E 1 3) ≤ 1 := hc3.2
  unfold opF bgF
  rw [hs, show nv (nI 3) = 3 from nv_nI (by omega), hw, if_neg (fun z => z.elim (fun y => y h2) (fun y => y.elim (by decide) (by decide)))]
  rcases Nat.eq_zero_or_pos (nv (E 1 0)) with q | q
  · have hk := hK.1 q
    have h10 : E 1 0 = nI 0 := by rw [hc0.1, q]
    rw [if_pos ⟨by decide, by rw [h10]; decide⟩, if_pos (hl.mpr (hk.2 3 (by decide))), if_neg (show ¬ nI 0 = nI 1 by decide), if_pos hk.1]
    rfl
  · have hk := hK.2 q
    have hlt : 0 < E 1 0 := by
      rw [hc0.1]
      exact nI_lt q (by omega)
    have hw0 : ¬ E 0 0 = 0 := fun z => by
      rw [z] at hk
      exact absurd hk (by decide)
    rw [if_neg (fun z => z.2 hlt)]
    rcases Nat.eq_zero_or_pos (nv (E 1 3)) with p | p
    · have h13 : E 1 3 = nI 0 := by rw [hc3.1, p]
      rw [h13, if_neg (fun z => absurd z.2 (by decide)), if_neg (show ¬ nI 3 = nI 1 by decide), if_neg (by decide), if_pos (hl.mpr p), if_neg (show ¬ nI 0 = nI 1 by decide), if_neg hw0]
      rfl
    · have hl3 : 0 < E 1 3 := by
        rw [hc3.1]
        exact nI_lt p (by omega)
      rw [if_pos ⟨Or.inr rfl, hl3⟩, if_neg (fun z => absurd (hl.mp z) (by omega))]
      rfl
