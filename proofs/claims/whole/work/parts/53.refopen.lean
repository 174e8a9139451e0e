/-- what the counts keep: with no land told yet all is nothing -/
def LKp (E : Nat → Nat → Int32) : Prop := (nv (E 1 0) = 0 → E 0 0 = 0 ∧ ∀ s, s < 13 → nv (E 1 s) = 0) ∧ (0 < nv (E 1 0) → 2 ≤ nv (E 0 0))
theorem rmN_p : ∀ s, s < 13 → 0 < rmN s := by decide +kernel
theorem op_b {T : NT} {E : Nat → Nat → Int32} {B : Nat → Int32} {n i s : Nat} {w : Int32} (hI : LRI T E) (hK : LKp E) (hw : w = E 0 0) (h2 : kiF B n i = 2) (hs : opS B n i = nI s) (h13 : s < 13) (n0 : s ≠ 0) (n1 : s ≠ 1) (n3 : s ≠ 3) : opF E B n i = rb (bgF (nI (nv (E 1 s))) (nI (rmN s)) w B n i) (fun j => .inr (s, j)) := by
  obtain ⟨hC, hWI, hN, hV⟩ := hI
  have hcs := hC s h13
  have hc0 := hC 0 (by decide)
  have hr := rmN_r s h13
  have hp := rmN_p s h13
  have es : nv (nI s) = s := nv_nI (by omega)
  have a0 : ¬ (nI s = nI 0) := fun z => n0 ((nI_eq (by omega) (by decide)).mp z)
  have a1 : ¬ (nI s = nI 1) := fun z => n1 ((nI_eq (by omega) (by decide)).mp z)
  have a3 : ¬ (nI s = nI 3) := fun z => n3 ((nI_eq (by omega) (by decide)).mp z)
  have a13 : ¬ (nI s = nI 13) := fun z => absurd ((nI_eq (by omega) (by decide)).mp z) (by omega)
  have am : ¬ (nI s = -nI 1) := by
    have : ∀ s, s < 13 → ¬ (nI s = -nI 1) := by decide +kernel
    exact this s h13
  unfold opF bgF
  rw [hs, es, hw, if_neg (fun z => z.elim (fun y => y h2) (fun y => y.elim am a13))]
  rcases Nat.eq_zero_or_pos (nv (E 1 0)) with q | q
  · have hk := hK.1 q
    rw [if_pos ⟨a0, by rw [hc0.1, q]; decide⟩, if_neg (fun z => absurd ((nI_eq (by omega) (by omega)).mp z) (by have := hk.2 s h13; omega)), if_pos hk.1]
    rfl
  · have hk := hK.2 q
    have hw0 : ¬ E 0 0 = 0 := fun z => by
      rw [z] at hk
      exact absurd hk (by decide)
    have hlt : 0 < E 1 0 := by
      rw [hc0.1]
      exact nI_lt q (by have := hc0.2; have := rmN_r 0 (by decide); omega)
    rw [if_neg (fun z => z.2 hlt), if_neg (fun z => z.1.elim a0 a3), if_neg a1, hr.1]
    by_cases hf : nv (E 1 s) = rmN s
    · have hle : nI (rmN s) ≤ E 1 s := by
        rw [hcs.1, hf]
        exact nI_le (Nat.le_refl _) (by omega)
      rw [if_pos hle, if_pos (congrArg nI hf)]
      rfl
    · have hle : ¬ nI (rmN s) ≤ E 1 s := by
        rw [hcs.1]
        exact Int32.not_le.mpr (nI_lt (by omega) (by omega))
      rw [if_neg hle, if_neg (fun z => hf ((nI_eq (by omega) (by omega)).mp z)), if_neg hw0]
      rfl
