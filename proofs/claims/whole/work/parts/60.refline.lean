theorem nxF_ge {B : Nat → Int32} {n i : Nat} : i ≤ nxF B n i := by
  have hp : i ≤ plF B n i := Nat.le_add_right _ _
  unfold nxF nxP
  split
  · exact hp
  · split
    · omega
    · split <;> omega
theorem nxF_gt {B : Nat → Int32} {n i : Nat} (h : kiF B n i = 2) : i < nxF B n i := by
  have hw := (ki2_l h).2.1
  have hp : i ≤ plF B n i := Nat.le_add_right _ _
  unfold leT at hw
  unfold kiF kiP at h
  unfold nxF nxP
  by_cases a : n ≤ plF B n i
  · rw [if_pos a] at h; omega
  · rw [if_neg a] at h ⊢
    by_cases b : ltr (B (plF B n i))
    · rw [if_pos b]; omega
    · rw [if_neg b] at h
      by_cases g : dgt (B (plF B n i))
      · rw [if_pos g] at h; split at h <;> omega
      · rw [if_neg g] at h; split at h <;> omega
theorem mn_W {cc : Int64} {B : Nat → Int32} {n i j : Nat} (h : pWord cc B n i = .inr j) : i ≤ j := by
  unfold pWord at h
  split at h
  · rw [← Sum.inr.inj h]; exact nxF_ge
  · cases h
theorem mn_S {cc : Int32} {B : Nat → Int32} {n i j : Nat} (h : pSign cc B n i = .inr j) : i ≤ j := by
  unfold pSign at h
  split at h
  · rw [← Sum.inr.inj h]; exact nxF_ge
  · cases h
theorem mn_P {cs : List Int64} {B : Nat → Int32} {n i : Nat} {a : Int32 × Nat} (h : pPick cs B n i = .inr a) : i ≤ a.2 := by
  unfold pPick at h
  split at h
  · rw [← Sum.inr.inj h]; exact nxF_ge
  · cases h
theorem mn_H {x y : Int32} {B : Nat → Int32} {n i : Nat} {a : Int32 × Nat} (h : pWhole x y B n i = .inr a) : i ≤ a.2 := by
  unfold pWhole at h
  split at h
  · split at h
    · cases h
    · rw [← Sum.inr.inj h]; exact nxF_ge
  · cases h
theorem mn_G {y : Int32} {B : Nat → Int32} {n i : Nat} {a : Int32 × Nat} (h : pGround y B n i = .inr a) : i ≤ a.2 := by
  unfold pGround at h
  split at h
  · split at h
    · cases h
    · rw [← Sum.inr.inj h]; exact nxF_ge
  · cases h
theorem mn_U {T : NT} {so n i : Nat} {B : Nat → Int32} {a : Int32 × Nat} (h : tUse T so B n i = .inr a) : i ≤ a.2 := by
  obtain ⟨x, j⟩ := a
  rw [(tUse_2 h).2]; exact nxF_ge
theorem mn_A {T : NT} {n i : Nat} {B : Nat → Int32} {a : Int32 × Nat} (h : pAnyT T B n i = .inr a) : i ≤ a.2 := by
  unfold pAnyT at h
  split at h
  · rw [← Sum.inr.inj h]; exact nxF_ge
  · exact mn_U h
theorem mn_L {cs : Nat → Int64} {w n i j : Nat} {B : Nat → Int32} (h : pTell cs w B n i = .inr j) : i ≤ j := by
  unfold pTell at h
  split at h
  · split at h
    · cases h
    · rw [← Sum.inr.inj h]; exact nxF_ge
  · cases h
theorem mn_T {T : NT} {so n i : Nat} {E : Nat → Nat → Int32} {B : Nat → Int32} {a : NT × Nat} (h : tTell T so E B n i = .inr a) : i ≤ a.2 := by
  unfold tTell at h
  obtain ⟨j, h1, h2⟩ := rb_r h
  rw [← Sum.inr.inj h2]; exact mn_L h1
theorem mn_C {E : Nat → Nat → Int32} {B : Nat → Int32} {n i : Nat} {a : Int32 × Nat} (h : pCell E B n i = .inr a) : i ≤ a.2 := by
  unfold pCell at h
  obtain ⟨x1, h1, h⟩ := rb_r h
  obtain ⟨x2, h2, h⟩ := rb_r h
  obtain ⟨x3, h3, h⟩ := rb_r h
  obtain ⟨x4, h4, h⟩ := rb_r h
  have m1 := mn_W h1
  have m2 := mn_H h2
  have m3 := mn_S h3
  have m4 := mn_H h4
  rw [← Sum.inr.inj h]
  show i ≤ x4.2
  omega
theorem mnl_0 {T T1 : NT} {E E1 : Nat → Nat → Int32} {B : Nat → Int32} {n i j : Nat} (h : landL T E B n i = .inr (T1, E1, j)) : i ≤ j := by
  unfold landL at h
  obtain ⟨x0, h0, h⟩ := rb_r h
  have m0 := mn_W h0
  obtain ⟨x1, h1, h⟩ := rb_r h
  have m1 := mn_H h1
  obtain ⟨x2, h2, h⟩ := rb_r h
  have m2 := mn_W h2
  obtain ⟨x3, h3, h⟩ := rb_r h
  have m3 := mn_H h3
  obtain ⟨x4, h4, h⟩ := rb_r h
  have m4 := mn_W h4
  obtain ⟨x5, h5, h⟩ := rb_r h
  have m5 := mn_P h5
  have e := congrArg (fun a : LSt => a.2.2) (Sum.inr.inj h)
  dsimp only at e
  omega
theorem mnl_3 {T T1 : NT} {E E1 : Nat → Nat → Int32} {B : Nat → Int32} {n i j : Nat} (h : luckL T E B n i = .inr (T1, E1, j)) : i ≤ j := by
  unfold luckL at h
  obtain ⟨x0, h0, h⟩ := rb_r h
  have m0 := mn_H h0
  have e := congrArg (fun a : LSt => a.2.2) (Sum.inr.inj h)
  dsimp only at e
  omega
theorem mnl_4 {T T1 : NT} {E E1 : Nat → Nat → Int32} {B : Nat → Int32} {n i j : Nat} (h : godL T E B n i = .inr (T1, E1, j)) : i ≤ j := by
  unfold godL at h
  obtain ⟨x0, h0, h⟩ := rb_r h
  have m0 := mn_T h0
  obtain ⟨x1, h1, h⟩ := rb_r h
  have m1 := mn_P h1
  obtain ⟨x2, h2, h⟩ := rb_r h
  have m2 := mn_W h2
  obtain ⟨x3, h3, h⟩ := rb_r h
  have m3 := mn_H h3
  obtain ⟨x4, h4, h⟩ := rb_r h
  have m4 := mn_W h4
  obtain ⟨x5, h5, h⟩ := rb_r h
  have m5 := mn_H h5
  obtain ⟨x6, h6, h⟩ := rb_r h
  have m6 := mn_W h6
  obtain ⟨x7, h7, h⟩ := rb_r h
  have m7 := mn_H h7
  obtain ⟨x8, h8, h⟩ := rb_r h
  have m8 := mn_W h8
  obtain ⟨x9, h9, h⟩ := rb_r h
  have m9 := mn_H h9
  have e := congrArg (fun a : LSt => a.2.2) (Sum.inr.inj h)
  dsimp only at e
  omega
theorem mnl_8 {T T1 : NT} {E E1 : Nat → Nat → Int32} {B : Nat → Int32} {n i j : Nat} (h : prayerL T E B n i = .inr (T1, E1, j)) : i ≤ j := by
  unfold prayerL at h
  obtain ⟨x0, h0, h⟩ := rb_r h
  have m0 := mn_T h0
  obtain ⟨x1, h1, h⟩ := rb_r h
  have m1 := mn_U h1
  obtain ⟨x2, h2, h⟩ := rb_r h
  have m2 := mn_C h2
  obtain ⟨x3, h3, h⟩ := rb_r h
  have m3 := mn_W h3
  obtain ⟨x4, h4, h⟩ := rb_r h
  have m4 := mn_H h4
  obtain ⟨x5, h5, h⟩ := rb_r h
  have m5 := mn_W h5
  obtain ⟨x6, h6, h⟩ := rb_r h
  have m6 := mn_U h6
  obtain ⟨x7, h7, h⟩ := rb_r h
  have m7 := mn_H h7
  obtain ⟨x8, h8, h⟩ := rb_r h
  have m8 := mn_W h8
  obtain ⟨x9, h9, h⟩ := rb_r h
  have m9 := mn_H h9
  obtain ⟨x10, h10, h⟩ := rb_r h
  have m10 := mn_W h10
  obtain ⟨x11, h11, h⟩ := rb_r h
  have m11 := mn_H h11
  have e := congrArg (fun a : LSt => a.2.2) (Sum.inr.inj h)
  dsimp only at e
  omega
theorem mnl_10 {T T1 : NT} {E E1 : Nat → Nat → Int32} {B : Nat → Int32} {n i j : Nat} (h : villL T E B n i = .inr (T1, E1, j)) : i ≤ j := by
  unfold villL at h
  obtain ⟨x0, h0, h⟩ := rb_r h
  have m0 := mn_T h0
  obtain ⟨x1, h1, h⟩ := rb_r h
  have m1 := mn_C h1
  obtain ⟨x2, h2, h⟩ := rb_r h
  have m2 := mn_W h2
  obtain ⟨x3, h3, h⟩ := rb_r h
  have m3 := mn_U h3
  have e := congrArg (fun a : LSt => a.2.2) (Sum.inr.inj h)
  dsimp only at e
  omega
theorem mnl_11 {T T1 : NT} {E E1 : Nat → Nat → Int32} {B : Nat → Int32} {n i j : Nat} (h : spellL T E B n i = .inr (T1, E1, j)) : i ≤ j := by
  unfold spellL at h
  obtain ⟨x0, h0, h⟩ := rb_r h
  have m0 := mn_P h0
  obtain ⟨x1, h1, h⟩ := rb_r h
  have m1 := mn_H h1
  have e := congrArg (fun a : LSt => a.2.2) (Sum.inr.inj h)
  dsimp only at e
  omega
theorem mnl_12 {T T1 : NT} {E E1 : Nat → Nat → Int32} {B : Nat → Int32} {n i j : Nat} (h : sawL T E B n i = .inr (T1, E1, j)) : i ≤ j := by
  unfold sawL at h
  obtain ⟨x0, h0, h⟩ := rb_r h
  have m0 := mn_U h0
  obtain ⟨x1, h1, h⟩ := rb_r h
  have m1 := mn_G h1
  obtain ⟨x2, h2, h⟩ := rb_r h
  have m2 := mn_H h2
  obtain ⟨x3, h3, h⟩ := rb_r h
  have m3 := mn_P h3
  have e := congrArg (fun a : LSt => a.2.2) (Sum.inr.inj h)
  dsimp only at e
  omega
theorem mnl_5 {T T1 : NT} {E E1 : Nat → Nat → Int32} {B : Nat → Int32} {n i j : Nat} (h : holdsL T E B n i = .inr (T1, E1, j)) : i ≤ j := by
  unfold holdsL at h
  obtain ⟨x0, h0, h⟩ := rb_r h
  have m0 := mn_U h0
  obtain ⟨x1, h1, h⟩ := rb_r h
  have m1 := mn_A h1
  obtain ⟨x2, h2, h⟩ := rb_r h
  have m2 := mn_G h2
  obtain ⟨x3, h3, h⟩ := rb_r h
  have m3 := mn_H h3
  obtain ⟨x4, h4, h⟩ := rb_r h
  have m4 := mn_W h4
  obtain ⟨x5, h5, h⟩ := rb_r h
  have m5 := mn_H h5
  have e := congrArg (fun a : LSt => a.2.2) (Sum.inr.inj h)
  dsimp only at e
  omega
theorem mnl_2 {T T1 : NT} {E E1 : Nat → Nat → Int32} {B : Nat → Int32} {n i j : Nat} (h : rb (tTell T 2 E B n i) (fun t => .inr (t.1, E, t.2)) = (.inr (T1, E1, j) : Rs LSt)) : i ≤ j := by
  obtain ⟨x0, h0, h⟩ := rb_r h
  have m0 := mn_T h0
  have e := congrArg (fun a : LSt => a.2.2) (Sum.inr.inj h)
  dsimp only at e
  omega
theorem mnl_7 {T T1 : NT} {E E1 : Nat → Nat → Int32} {B : Nat → Int32} {n i j : Nat} (h : barsL T E B n i = .inr (T1, E1, j)) : i ≤ j := by
  unfold barsL at h
  obtain ⟨x0, h0, h⟩ := rb_r h
  have m0 := mn_U h0
  obtain ⟨x1, h1, h⟩ := rb_r h
  have m1 := mn_U h1
  split at h
  · cases h
  · split at h
    · cases h
    · have e := congrArg (fun a : LSt => a.2.2) (Sum.inr.inj h)
      dsimp only at e
      omega
theorem mnl_9 {T T1 : NT} {E E1 : Nat → Nat → Int32} {B : Nat → Int32} {n i j : Nat} (h : clashL T E B n i = .inr (T1, E1, j)) : i ≤ j := by
  unfold clashL at h
  obtain ⟨x0, h0, h⟩ := rb_r h
  have m0 := mn_U h0
  obtain ⟨x1, h1, h⟩ := rb_r h
  have m1 := mn_U h1
  split at h
  · cases h
  · split at h
    · cases h
    · have e := congrArg (fun a : LSt => a.2.2) (Sum.inr.inj h)
      dsimp only at e
      omega
theorem mnl_6 {T T1 : NT} {E E1 : Nat → Nat → Int32} {B : Nat → Int32} {n i j : Nat} (h : sendsL T E B n i = .inr (T1, E1, j)) : i ≤ j := by
  unfold sendsL at h
  obtain ⟨x0, h0, h⟩ := rb_r h
  have m0 := mn_U h0
  obtain ⟨x1, h1, h⟩ := rb_r h
  have m1 := mn_U h1
  split at h
  · obtain ⟨x2, h2, h⟩ := rb_r h
    have m2 := mn_U h2
    split at h
    · cases h
    · have e := congrArg (fun a : LSt => a.2.2) (Sum.inr.inj h)
      dsimp only at e
      omega
  · cases h
theorem mnl_1 {T T1 : NT} {E E1 : Nat → Nat → Int32} {B : Nat → Int32} {n i j : Nat} (h : rowL T E B n i = .inr (T1, E1, j)) : i ≤ j := by
  unfold rowL at h
  split at h
  · split at h
    · split at h
      · have e := congrArg (fun a : LSt => a.2.2) (Sum.inr.inj h)
        dsimp only at e
        rw [← e]; exact nxF_ge
      · cases h
    · cases h
  · cases h
theorem mnl_N {T T1 : NT} {E E1 : Nat → Nat → Int32} {B : Nat → Int32} {n i j : Nat} {s : Nat} (h : lnF s T E B n i = .inr (T1, E1, j)) (hs : s < 13) : i ≤ j := by
  match s, hs with
  | 0, _ => exact mnl_0 h
  | 1, _ => exact mnl_1 h
  | 2, _ => exact mnl_2 h
  | 3, _ => exact mnl_3 h
  | 4, _ => exact mnl_4 h
  | 5, _ => exact mnl_5 h
  | 6, _ => exact mnl_6 h
  | 7, _ => exact mnl_7 h
  | 8, _ => exact mnl_8 h
  | 9, _ => exact mnl_9 h
  | 10, _ => exact mnl_10 h
  | 11, _ => exact mnl_11 h
  | 12, _ => exact mnl_12 h
  | s + 13, hk => exact absurd hk (by omega)
theorem wq_l {B : Nat → Int32} {n i : Nat} {w : Int64} (h : wqX B n (.inr i) w) : kiF B n i = 2 ∧ coT B n i = w := by
  obtain ⟨j, ez1, h1, h2⟩ := h
  have ez2 : i = j := Sum.inr.inj ez1
  rw [ez2]
  exact ⟨h1, h2⟩
def llPt (B : Nat → Int32) (n : Nat) (Y : Rs (Nat × LSt)) (D : Nat → Nat → Int32) (K : Nat → Nat → Int64) (E : Nat → Nat → Int32) (L : Nat → Nat → Int64) : Prop := match Y with
  | .inl e => RX B n (.inl e) D K
  | .inr a => RX B n (.inr a.2.2.2) D K ∧ NR a.2.1 E L ∧ LQ (bump a.2.2.1 a.1) E
/-- a line's opening and its rest -/
def olF (T : NT) (Λ : Nat → Nat → Int32) (B : Nat → Int32) (n i : Nat) : Rs (Nat × LSt) := rb (opF Λ B n i) fun s => rb (lnF s.1 T Λ B n s.2) fun t => .inr (s.1, t)
theorem ll_of {T : NT} {Λ : Nat → Nat → Int32} {B : Nat → Int32} {n i s : Nat} {X : Rs Nat} {F : Nat → Rs LSt} {D : Nat → Nat → Int32} {K : Nat → Nat → Int64} {E : Nat → Nat → Int32} {L : Nat → Nat → Int64} (ho : opF Λ B n i = rb X (fun j => .inr (s, j))) (hF : ∀ j, lnF s T Λ B n j = F j) (h : lnPt B n s (rb X F) D K E L) : llPt B n (olF T Λ B n i) D K E L := by
  unfold olF
  rw [ho]
  cases X with
  | inl e => exact h
  | inr j =>
    show llPt B n (rb (lnF s T Λ B n j) fun t => .inr (s, t)) D K E L
    change lnPt B n s (F j) D K E L at h
    rw [hF j]
    cases hf : F j with
    | inl e => rw [hf] at h; exact h
    | inr t => rw [hf] at h; exact h
theorem op_x {Λ : Nat → Nat → Int32} {B : Nat → Int32} {n i : Nat} (h : kiF B n i = 2 → ¬ coT B n i = lN 394692 ∧ ¬ coT B n i = lN 18935 ∧ ¬ coT B n i = lN 21243335 ∧ ¬ coT B n i = lN 414827 ∧ ¬ coT B n i = lN 7652 ∧ ¬ coT B n i = lN 8892563 ∧ ¬ coT B n i = lN 20101267 ∧ ¬ coT B n i = lN 67155 ∧ ¬ coT B n i = lN 555803826 ∧ ¬ coT B n i = lN 3540584 ∧ ¬ coT B n i = lN 23937287397 ∧ ¬ coT B n i = lN 20452748 ∧ ¬ coT B n i = lN 19511) : opF Λ B n i = .inl (1, plF B n i) := by
  unfold opF
  refine if_pos ?_
  by_cases kz2 : kiF B n i = 2
  · obtain ⟨n0, n1, n2, n3, n4, n5, n6, n7, n8, n9, n10, n11, n12⟩ := h kz2
    refine Or.inr ?_
    by_cases ha : coT B n i = lN 1497
    · exact Or.inr (by unfold opS; rw [ha]; decide +kernel)
    · refine Or.inl ?_
      unfold opS rsvL
      rw [ixF, if_neg (fun z => n0 z.symm), ixF, if_neg (fun z => n1 z.symm), ixF, if_neg (fun z => n2 z.symm), ixF, if_neg (fun z => n3 z.symm), ixF, if_neg (fun z => n4 z.symm), ixF, if_neg (fun z => n5 z.symm), ixF, if_neg (fun z => n6 z.symm), ixF, if_neg (fun z => n7 z.symm), ixF, if_neg (fun z => n8 z.symm), ixF, if_neg (fun z => n9 z.symm), ixF, if_neg (fun z => n10 z.symm), ixF, if_neg (fun z => n11 z.symm), ixF, if_neg (fun z => n12 z.symm), ixF, if_neg (fun z => ha z.symm), ixF]
  · exact Or.inl kz2
theorem hz_0 {T : NT} {Λ : Nat → Nat → Int32} {w : Int32} (hI : LRI T Λ) (hK : LKp Λ) (hw : w = Λ 0 0) (h : ¬ 0 < w) : nv (Λ 1 1) = 0 := by
  rcases Nat.eq_zero_or_pos (nv (Λ 1 0)) with q | q
  · exact (hK.1 q).2 1 (by decide)
  · have hk := hK.2 q
    refine absurd ?_ h
    rw [hw, hI.2.1.1]
    exact nI_lt (show 0 < nv (Λ 0 0) by omega) (by have := hI.2.1.2.1; omega)
theorem L229 {d : Nat} {m : Mm} {Q : Option Value → Mm → Prop} {q : Nat} {E : Nat → Nat → Int32} {L : Nat → Nat → Int64} (hW : Wd m.2.2) (hN : NW m.2.2 q) (hdq : q + 29 ≤ 142 ∨ 142 + 3 ≤ q) {D : Nat → Nat → Int32} {K : Nat → Nat → Int64} {Λ : Nat → Nat → Int32} {T : NT} (hq4 : va_rf (mR m 142 4) = .ref q) (hLQ : LQ Λ E) (hNR : NR T E L) (hI : LRI T Λ) (hK : LKp Λ) {B : Nat → Int32} {n i : Nat} (hR : RBy B n D) (hT : TR B n i D K) (hi : i ≤ n) (h14 : D 0 14 = nI 0) (hd : 14 ≤ d) (hQ : ∀ D1 K1 E1 L1, FY D D1 → llPt B n (olF T Λ B n i) D1 K1 E1 L1 → Q none (pp m 142 3 D1 K1 q 29 E1 L1)) : Cc d 0 0 229 [.ref 142] (pp m 142 3 D K q 29 E L) Q := by
  have hX0 : RX B n (.inr i) D K := ⟨hR, hT, hi, h14⟩
  refine ent (n := 210) z229 (by decide) rfl (by decide) (Nat.le_of_ble_eq_true rfl) (fun sc => ?_)
  refine And.intro ⟨by omega, Nat.le_of_ble_eq_true rfl, Nat.le_refl _, Nat.le_refl _⟩ (And.intro (Wdo_142 hW) ?_)
  refine X213 (s0 := 21) hW hN hdq hX0 (by decide) (by decide) wo_21 (by omega) ?_
  refine And.intro (fun cz3 => ?_) (fun cz3 => ?_)
  · -- 3 taken: bi (wqX B n (.inr i) (lN 394692)) = 0
    refine And.intro ⟨by omega, Nat.le_of_ble_eq_true rfl, Nat.le_refl _, Nat.le_refl _⟩ (And.intro (Wdo_142 hW) ?_)
    refine X213 (s0 := 28) hW hN hdq hX0 (by decide) (by decide) wo_28 (by omega) ?_
    refine And.intro (fun cz10 => ?_) (fun cz10 => ?_)
    · -- 10 taken: bi (wqX B n (.inr i) (lN 18935)) = 0
      refine And.intro ⟨by omega, Nat.le_of_ble_eq_true rfl, Nat.le_refl _, Nat.le_refl _⟩ (And.intro (Wdo_142 hW) ?_)
      refine X213 (s0 := 29) hW hN hdq hX0 (by decide) (by decide) wo_29 (by omega) ?_
      refine And.intro (fun cz17 => ?_) (fun cz17 => ?_)
      · -- 17 taken: bi (wqX B n (.inr i) (lN 21243335)) = 0
        refine And.intro ⟨by omega, Nat.le_of_ble_eq_true rfl, Nat.le_refl _, Nat.le_refl _⟩ (And.intro (Wdo_142 hW) ?_)
        refine X213 (s0 := 30) hW hN hdq hX0 (by decide) (by decide) wo_30 (by omega) ?_
        refine And.intro (fun cz24 => ?_) (fun cz24 => ?_)
        · -- 24 taken: bi (wqX B n (.inr i) (lN 414827)) = 0
          refine And.intro ⟨by omega, Nat.le_of_ble_eq_true rfl, Nat.le_refl _, Nat.le_refl _⟩ (And.intro (Wdo_142 hW) ?_)
          refine X213 (s0 := 31) hW hN hdq hX0 (by decide) (by decide) wo_31 (by omega) ?_
          refine And.intro (fun cz31 => ?_) (fun cz31 => ?_)
          · -- 31 taken: bi (wqX B n (.inr i) (lN 7652)) = 0
            refine And.intro ⟨by omega, Nat.le_of_ble_eq_true rfl, Nat.le_refl _, Nat.le_refl _⟩ (And.intro (Wdo_142 hW) ?_)
            refine X213 (s0 := 32) hW hN hdq hX0 (by decide) (by decide) wo_32 (by omega) ?_
            refine And.intro (fun cz38 => ?_) (fun cz38 => ?_)
            · -- 38 taken: bi (wqX B n (.inr i) (lN 8892563)) = 0
              refine And.intro ⟨by omega, Nat.le_of_ble_eq_true rfl, Nat.le_refl _, Nat.le_refl _⟩ (And.intro (Wdo_142 hW) ?_)
              refine X213 (s0 := 33) hW hN hdq hX0 (by decide) (by decide) wo_33 (by omega) ?_
              refine And.intro (fun cz45 => ?_) (fun cz45 => ?_)
              · -- 45 taken: bi (wqX B n (.inr i) (lN 20101267)) = 0
                refine And.intro ⟨by omega, Nat.le_of_ble_eq_true rfl, Nat.le_refl _, Nat.le_refl _⟩ (And.intro (Wdo_142 hW) ?_)
                refine X213 (s0 := 34) hW hN hdq hX0 (by decide) (by decide) wo_34 (by omega) ?_
                refine And.intro (fun cz52 => ?_) (fun cz52 => ?_)
                · -- 52 taken: bi (wqX B n (.inr i) (lN 67155)) = 0
                  refine And.intro ⟨by omega, Nat.le_of_ble_eq_true rfl, Nat.le_refl _, Nat.le_refl _⟩ (And.intro (Wdo_142 hW) ?_)
                  refine X213 (s0 := 35) hW hN hdq hX0 (by decide) (by decide) wo_35 (by omega) ?_
                  refine And.intro (fun cz59 => ?_) (fun cz59 => ?_)
                  · -- 59 taken: bi (wqX B n (.inr i) (lN 555803826)) = 0
                    refine And.intro ⟨by omega, Nat.le_of_ble_eq_true rfl, Nat.le_refl _, Nat.le_refl _⟩ (And.intro (Wdo_142 hW) ?_)
                    refine X213 (s0 := 36) hW hN hdq hX0 (by decide) (by decide) wo_36 (by omega) ?_
                    refine And.intro (fun cz66 => ?_) (fun cz66 => ?_)
                    · -- 66 taken: bi (wqX B n (.inr i) (lN 3540584)) = 0
                      refine And.intro ⟨by omega, Nat.le_of_ble_eq_true rfl, Nat.le_refl _, Nat.le_refl _⟩ (And.intro (Wdo_142 hW) ?_)
                      refine X213 (s0 := 37) hW hN hdq hX0 (by decide) (by decide) wo_37 (by omega) ?_
                      refine And.intro (fun cz73 => ?_) (fun cz73 => ?_)
                      · -- 73 taken: bi (wqX B n (.inr i) (lN 23937287397)) = 0
                        refine And.intro ⟨by omega, Nat.le_of_ble_eq_true rfl, Nat.le_refl _, Nat.le_refl _⟩ (And.intro (Wdo_142 hW) ?_)
                        refine X213 (s0 := 38) hW hN hdq hX0 (by decide) (by decide) wo_38 (by omega) ?_
                        refine And.intro (fun cz80 => ?_) (fun cz80 => ?_)
                        · -- 80 taken: bi (wqX B n (.inr i) (lN 20452748)) = 0
                          refine And.intro ⟨by omega, Nat.le_of_ble_eq_true rfl, Nat.le_refl _, Nat.le_refl _⟩ (And.intro (Wdo_142 hW) ?_)
                          refine X213 (s0 := 39) hW hN hdq hX0 (by decide) (by decide) wo_39 (by omega) ?_
                          refine And.intro (fun cz87 => ?_) (fun cz87 => ?_)
                          · -- 87 taken: bi (wqX B n (.inr i) (lN 19511)) = 0
                            refine And.intro ⟨by omega, Nat.le_of_ble_eq_true rfl, Nat.le_refl _, Nat.le_refl _⟩ (And.intro (Wdo_142 hW) ?_)
                            refine X212 (f := 1) hW hN hdq hX0 (fun D1 hX1 hy1 => ?_)
                            · -- a way behind the call
                              refine And.intro ⟨rfl, rfl, Nat.le_refl _, Nat.le_refl _⟩ ?_
                              refine hQ _ _ _ _ hy1 ?_
                              unfold olF
                              rw [op_x (fun kq => ⟨fun z => bi_eq0.mp cz3 ⟨i, rfl, kq, z⟩, fun z => bi_eq0.mp cz10 ⟨i, rfl, kq, z⟩, fun z => bi_eq0.mp cz17 ⟨i, rfl, kq, z⟩, fun z => bi_eq0.mp cz24 ⟨i, rfl, kq, z⟩, fun z => bi_eq0.mp cz31 ⟨i, rfl, kq, z⟩, fun z => bi_eq0.mp cz38 ⟨i, rfl, kq, z⟩, fun z => bi_eq0.mp cz45 ⟨i, rfl, kq, z⟩, fun z => bi_eq0.mp cz52 ⟨i, rfl, kq, z⟩, fun z => bi_eq0.mp cz59 ⟨i, rfl, kq, z⟩, fun z => bi_eq0.mp cz66 ⟨i, rfl, kq, z⟩, fun z => bi_eq0.mp cz73 ⟨i, rfl, kq, z⟩, fun z => bi_eq0.mp cz80 ⟨i, rfl, kq, z⟩, fun z => bi_eq0.mp cz87 ⟨i, rfl, kq, z⟩⟩)]
                              exact hX1
                          · -- 87 not: ¬ bi (wqX B n (.inr i) (lN 19511)) = 0
                            refine And.intro ⟨by omega, Nat.le_of_ble_eq_true rfl, Nat.le_refl _, Nat.le_refl _⟩ (And.intro (Wdo_142 hW) ?_)
                            obtain ⟨kk2, ewc⟩ := wq_l (bi_ne0.mp cz87)
                            have hos : opS B n i = nI 12 := by unfold opS; rw [ewc]; decide +kernel
                            have ho := op_b hI hK hLQ.1.1 kk2 hos (by decide) (by decide) (by decide) (by decide)
                            refine L242 hW hN hdq hq4 hLQ hNR hI hR hT hi h14 kk2 (by omega) (fun D1 K1 E1 L1 hy1 hp1 => ?_)
                            · -- a way behind the call
                              refine And.intro ⟨rfl, rfl, Nat.le_refl _, Nat.le_refl _⟩ ?_
                              exact hQ _ _ _ _ hy1 (ll_of ho (fun _ => rfl) hp1)
                        · -- 80 not: ¬ bi (wqX B n (.inr i) (lN 20452748)) = 0
                          refine And.intro ⟨by omega, Nat.le_of_ble_eq_true rfl, Nat.le_refl _, Nat.le_refl _⟩ (And.intro (Wdo_142 hW) ?_)
                          obtain ⟨kk2, ewc⟩ := wq_l (bi_ne0.mp cz80)
                          have hos : opS B n i = nI 11 := by unfold opS; rw [ewc]; decide +kernel
                          have ho := op_b hI hK hLQ.1.1 kk2 hos (by decide) (by decide) (by decide) (by decide)
                          refine L241 hW hN hdq hq4 hLQ hNR hI hR hT hi h14 kk2 (by omega) (fun D1 K1 E1 L1 hy1 hp1 => ?_)
                          · -- a way behind the call
                            refine And.intro ⟨rfl, rfl, Nat.le_refl _, Nat.le_refl _⟩ ?_
                            exact hQ _ _ _ _ hy1 (ll_of ho (fun _ => rfl) hp1)
                      · -- 73 not: ¬ bi (wqX B n (.inr i) (lN 23937287397)) = 0
                        refine And.intro ⟨by omega, Nat.le_of_ble_eq_true rfl, Nat.le_refl _, Nat.le_refl _⟩ (And.intro (Wdo_142 hW) ?_)
                        obtain ⟨kk2, ewc⟩ := wq_l (bi_ne0.mp cz73)
                        have hos : opS B n i = nI 10 := by unfold opS; rw [ewc]; decide +kernel
                        have ho := op_b hI hK hLQ.1.1 kk2 hos (by decide) (by decide) (by decide) (by decide)
                        refine L240 hW hN hdq hq4 hLQ hNR hI hR hT hi h14 kk2 (by omega) (fun D1 K1 E1 L1 hy1 hp1 => ?_)
                        · -- a way behind the call
                          refine And.intro ⟨rfl, rfl, Nat.le_refl _, Nat.le_refl _⟩ ?_
                          exact hQ _ _ _ _ hy1 (ll_of ho (fun _ => rfl) hp1)
                    · -- 66 not: ¬ bi (wqX B n (.inr i) (lN 3540584)) = 0
                      refine And.intro ⟨by omega, Nat.le_of_ble_eq_true rfl, Nat.le_refl _, Nat.le_refl _⟩ (And.intro (Wdo_142 hW) ?_)
                      obtain ⟨kk2, ewc⟩ := wq_l (bi_ne0.mp cz66)
                      have hos : opS B n i = nI 9 := by unfold opS; rw [ewc]; decide +kernel
                      have ho := op_b hI hK hLQ.1.1 kk2 hos (by decide) (by decide) (by decide) (by decide)
                      refine L239 hW hN hdq hq4 hLQ hNR hI hR hT hi h14 kk2 (by omega) (fun D1 K1 E1 L1 hy1 hp1 => ?_)
                      · -- a way behind the call
                        refine And.intro ⟨rfl, rfl, Nat.le_refl _, Nat.le_refl _⟩ ?_
                        exact hQ _ _ _ _ hy1 (ll_of ho (fun _ => rfl) hp1)
                  · -- 59 not: ¬ bi (wqX B n (.inr i) (lN 555803826)) = 0
                    refine And.intro ⟨by omega, Nat.le_of_ble_eq_true rfl, Nat.le_refl _, Nat.le_refl _⟩ (And.intro (Wdo_142 hW) ?_)
                    obtain ⟨kk2, ewc⟩ := wq_l (bi_ne0.mp cz59)
                    have hos : opS B n i = nI 8 := by unfold opS; rw [ewc]; decide +kernel
                    have ho := op_b hI hK hLQ.1.1 kk2 hos (by decide) (by decide) (by decide) (by decide)
                    refine L238 hW hN hdq hq4 hLQ hNR hI hR hT hi h14 kk2 (by omega) (fun D1 K1 E1 L1 hy1 hp1 => ?_)
                    · -- a way behind the call
                      refine And.intro ⟨rfl, rfl, Nat.le_refl _, Nat.le_refl _⟩ ?_
                      exact hQ _ _ _ _ hy1 (ll_of ho (fun _ => rfl) hp1)
                · -- 52 not: ¬ bi (wqX B n (.inr i) (lN 67155)) = 0
                  refine And.intro ⟨by omega, Nat.le_of_ble_eq_true rfl, Nat.le_refl _, Nat.le_refl _⟩ (And.intro (Wdo_142 hW) ?_)
                  obtain ⟨kk2, ewc⟩ := wq_l (bi_ne0.mp cz52)
                  have hos : opS B n i = nI 7 := by unfold opS; rw [ewc]; decide +kernel
                  have ho := op_b hI hK hLQ.1.1 kk2 hos (by decide) (by decide) (by decide) (by decide)
                  refine L237 hW hN hdq hq4 hLQ hNR hI hR hT hi h14 kk2 (by omega) (fun D1 K1 E1 L1 hy1 hp1 => ?_)
                  · -- a way behind the call
                    refine And.intro ⟨rfl, rfl, Nat.le_refl _, Nat.le_refl _⟩ ?_
                    exact hQ _ _ _ _ hy1 (ll_of ho (fun _ => rfl) hp1)
              · -- 45 not: ¬ bi (wqX B n (.inr i) (lN 20101267)) = 0
                refine And.intro ⟨by omega, Nat.le_of_ble_eq_true rfl, Nat.le_refl _, Nat.le_refl _⟩ (And.intro (Wdo_142 hW) ?_)
                obtain ⟨kk2, ewc⟩ := wq_l (bi_ne0.mp cz45)
                have hos : opS B n i = nI 6 := by unfold opS; rw [ewc]; decide +kernel
                have ho := op_b hI hK hLQ.1.1 kk2 hos (by decide) (by decide) (by decide) (by decide)
                refine L236 hW hN hdq hq4 hLQ hNR hI hR hT hi h14 kk2 (by omega) (fun D1 K1 E1 L1 hy1 hp1 => ?_)
                · -- a way behind the call
                  refine And.intro ⟨rfl, rfl, Nat.le_refl _, Nat.le_refl _⟩ ?_
                  exact hQ _ _ _ _ hy1 (ll_of ho (fun _ => rfl) hp1)
            · -- 38 not: ¬ bi (wqX B n (.inr i) (lN 8892563)) = 0
              refine And.intro ⟨by omega, Nat.le_of_ble_eq_true rfl, Nat.le_refl _, Nat.le_refl _⟩ (And.intro (Wdo_142 hW) ?_)
              obtain ⟨kk2, ewc⟩ := wq_l (bi_ne0.mp cz38)
              have hos : opS B n i = nI 5 := by unfold opS; rw [ewc]; decide +kernel
              have ho := op_b hI hK hLQ.1.1 kk2 hos (by decide) (by decide) (by decide) (by decide)
              refine L235 hW hN hdq hq4 hLQ hNR hI hR hT hi h14 kk2 (by omega) (fun D1 K1 E1 L1 hy1 hp1 => ?_)
              · -- a way behind the call
                refine And.intro ⟨rfl, rfl, Nat.le_refl _, Nat.le_refl _⟩ ?_
                exact hQ _ _ _ _ hy1 (ll_of ho (fun _ => rfl) hp1)
          · -- 31 not: ¬ bi (wqX B n (.inr i) (lN 7652)) = 0
            refine And.intro ⟨by omega, Nat.le_of_ble_eq_true rfl, Nat.le_refl _, Nat.le_refl _⟩ (And.intro (Wdo_142 hW) ?_)
            obtain ⟨kk2, ewc⟩ := wq_l (bi_ne0.mp cz31)
            have hos : opS B n i = nI 4 := by unfold opS; rw [ewc]; decide +kernel
            have ho := op_b hI hK hLQ.1.1 kk2 hos (by decide) (by decide) (by decide) (by decide)
            refine L234 hW hN hdq hq4 hLQ hNR hI hR hT hi h14 kk2 (by omega) (fun D1 K1 E1 L1 hy1 hp1 => ?_)
            · -- a way behind the call
              refine And.intro ⟨rfl, rfl, Nat.le_refl _, Nat.le_refl _⟩ ?_
              exact hQ _ _ _ _ hy1 (ll_of ho (fun _ => rfl) hp1)
        · -- 24 not: ¬ bi (wqX B n (.inr i) (lN 414827)) = 0
          refine And.intro ⟨by omega, Nat.le_of_ble_eq_true rfl, Nat.le_refl _, Nat.le_refl _⟩ (And.intro (Wdo_142 hW) ?_)
          obtain ⟨kk2, ewc⟩ := wq_l (bi_ne0.mp cz24)
          have hos : opS B n i = nI 3 := by unfold opS; rw [ewc]; decide +kernel
          have ho := op_3 hI hK hLQ.1.1 (luck_i hLQ.2.1 hI.2.2.2.2.2.2.2.2.2.2.2.2.2.1) kk2 hos
          refine L233 hW hN hdq hq4 hLQ hNR hI hR hT hi h14 kk2 (by omega) (fun D1 K1 E1 L1 hy1 hp1 => ?_)
          · -- a way behind the call
            refine And.intro ⟨rfl, rfl, Nat.le_refl _, Nat.le_refl _⟩ ?_
            exact hQ _ _ _ _ hy1 (ll_of ho (fun _ => rfl) hp1)
      · -- 17 not: ¬ bi (wqX B n (.inr i) (lN 21243335)) = 0
        refine And.intro ⟨by omega, Nat.le_of_ble_eq_true rfl, Nat.le_refl _, Nat.le_refl _⟩ (And.intro (Wdo_142 hW) ?_)
        obtain ⟨kk2, ewc⟩ := wq_l (bi_ne0.mp cz17)
        have hos : opS B n i = nI 2 := by unfold opS; rw [ewc]; decide +kernel
        have ho := op_b hI hK hLQ.1.1 kk2 hos (by decide) (by decide) (by decide) (by decide)
        refine L232 hW hN hdq hq4 hLQ hNR hI hR hT hi h14 kk2 (by omega) (fun D1 K1 E1 L1 hy1 hp1 => ?_)
        · -- a way behind the call
          refine And.intro ⟨rfl, rfl, Nat.le_refl _, Nat.le_refl _⟩ ?_
          exact hQ _ _ _ _ hy1 (ll_of ho (fun _ => rfl) hp1)
    · -- 10 not: ¬ bi (wqX B n (.inr i) (lN 18935)) = 0
      refine And.intro ⟨by omega, Nat.le_of_ble_eq_true rfl, Nat.le_refl _, Nat.le_refl _⟩ (And.intro (Wdo_142 hW) ?_)
      obtain ⟨kk2, ewc⟩ := wq_l (bi_ne0.mp cz10)
      have hos : opS B n i = nI 1 := by unfold opS; rw [ewc]; decide +kernel
      have ho := op_1 hI hK hLQ.1.1 kk2 hos
      rw [← hLQ.1.2.1] at ho
      refine L231 hW hN hdq hq4 hLQ hNR hI hR hT hi h14 kk2 (by omega) (fun D1 K1 E1 L1 hy1 hp1 => ?_)
      · -- a way behind the call
        refine And.intro ⟨rfl, rfl, Nat.le_refl _, Nat.le_refl _⟩ ?_
        exact hQ _ _ _ _ hy1 (ll_of ho (fun _ => rfl) hp1)
  · -- 3 not: ¬ bi (wqX B n (.inr i) (lN 394692)) = 0
    refine And.intro ⟨by omega, Nat.le_of_ble_eq_true rfl, Nat.le_refl _, Nat.le_refl _⟩ (And.intro (Wdo_142 hW) ?_)
    obtain ⟨kk2, ewc⟩ := wq_l (bi_ne0.mp cz3)
    have hos : opS B n i = nI 0 := by unfold opS; rw [ewc]; decide +kernel
    have ho := op_0 hI hK hLQ.1.1 kk2 hos
    have hz1 : ¬ 0 < E 0 0 → nv (Λ 1 1) = 0 := hz_0 hI hK hLQ.1.1
    refine L230 hW hN hdq hq4 hLQ hNR hI hR hT hi h14 kk2 (by omega) hz1 (fun D1 K1 E1 L1 hy1 hp1 => ?_)
    · -- a way behind the call
      refine And.intro ⟨rfl, rfl, Nat.le_refl _, Nat.le_refl _⟩ ?_
      exact hQ _ _ _ _ hy1 (ll_of ho (fun _ => rfl) hp1)
