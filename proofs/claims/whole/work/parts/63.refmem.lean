theorem uI_22 {m : Mm} {a i : Nat} {x : Int32} : (uI m a i x).2.2 = m.2.2 := rfl
theorem rI_22 {m : Mm} {a : Nat} {f : Nat → Int32} : (rI m a f).2.2 = m.2.2 := rfl
theorem uI_R2 {m : Mm} {a i : Nat} {x : Int32} : mR (uI m a i x) = mR m := rfl
theorem uI_S2 {m : Mm} {a i : Nat} {x : Int32} : mS (uI m a i x) = mS m := rfl
theorem uI_Z2 {m : Mm} {a i : Nat} {x : Int32} : mZ (uI m a i x) = mZ m := rfl
theorem rI_R2 {m : Mm} {a : Nat} {f : Nat → Int32} : mR (rI m a f) = mR m := rfl
theorem rI_S2 {m : Mm} {a : Nat} {f : Nat → Int32} : mS (rI m a f) = mS m := rfl
theorem rI_Z2 {m : Mm} {a : Nat} {f : Nat → Int32} : mZ (rI m a f) = mZ m := rfl
theorem uR_S2 {m : Mm} {a i : Nat} {x : Option Nat} : mS (uR m a i x) = mS m := rfl
theorem uR_Z2 {m : Mm} {a i : Nat} {x : Option Nat} : mZ (uR m a i x) = mZ m := rfl
theorem nA_Z2 {m : Mm} {t n : Nat} : mZ (nA m t n) = mZ m + 1 := rfl
theorem nA_S2 {m : Mm} {t n : Nat} : mS (nA m t n) = va_up (mS m) (mZ m) (t, n) := rfl
theorem nA_R2 {m : Mm} {t n : Nat} : mR (nA m t n) = va_up (mR m) (mZ m) (fun _ => none) := rfl
theorem nA_I2 {m : Mm} {t n : Nat} : mI (nA m t n) = va_up (mI m) (mZ m) (fun _ => 0) := rfl
theorem nA_J2 {m : Mm} {t n : Nat} : mJ (nA m t n) = va_up (mJ m) (mZ m) (fun _ => 0) := rfl
theorem NW_uR {m : Mm} {a r i : Nat} {x : Option Nat} (h : NW m.2.2 a) (hne : a ≠ r) : NW (uR m r i x).2.2 a := by
  have e : (uR m r i x).2.2.1 a = m.2.2.1 a := uR_ne hne
  unfold NW at h ⊢
  rw [e]
  exact h
theorem rfT_n : ∀ p ∈ rfT, p.1 < 158 ∧ ¬ (p.1 = 142 ∧ (p.2.1 = 3 ∨ p.2.1 = 4)) ∧ ¬ (p.1 = 0 ∧ p.2.1 = 3) ∧ ¬ (p.1 = 87 ∧ p.2.1 = 4) := by decide +kernel
theorem Wd_same {m n : Mm} (h : Wd m.2.2) (hZ : 158 ≤ mZ n) (hS : ∀ a, a < 158 → mS n a = mS m a) (hR : ∀ p ∈ rfT, mR n p.1 p.2.1 = mR m p.1 p.2.1) : Wd n.2.2 :=
  ⟨hZ, fun j hj => (hS j hj).trans (h.2.1 j hj), fun p hp => (hR p hp).trans (h.2.2 p hp)⟩
theorem Wd_uR {m : Mm} {r i : Nat} {x : Option Nat} (h : Wd m.2.2) (hr : r = 142 ∧ (i = 3 ∨ i = 4) ∨ r = 0 ∧ i = 3 ∨ r = 87 ∧ i = 4) : Wd (uR m r i x).2.2 := by
  refine Wd_same h h.1 (fun _ _ => rfl) (fun p hp => ?_)
  have hn := rfT_n p hp
  by_cases e : p.1 = r
  · rw [e, uR_eq, up_ne]
    intro z
    rcases hr with hr | hr | hr
    · exact hn.2.1 ⟨e.trans hr.1, hr.2.elim (fun q => Or.inl (z.trans q)) (fun q => Or.inr (z.trans q))⟩
    · exact hn.2.2.1 ⟨e.trans hr.1, z.trans hr.2⟩
    · exact hn.2.2.2 ⟨e.trans hr.1, z.trans hr.2⟩
  · rw [uR_ne e]
theorem nL_I {m : Mm} {z a : Nat} (hz : mZ m = z + 1) (h : a < z) : mI (nLd m z) a = mI m a := by
  unfold nLd
  rw [rI_ne (by omega), nw_I hz, if_neg (by omega), if_neg (by omega)]
theorem nL_z {m : Mm} {z : Nat} (hz : mZ m = z + 1) : mI (nLd m z) z = upd (mI m z) 16 (-nI 1) := by
  unfold nLd
  rw [rI_ne (by omega), nw_I hz, if_neg (by omega), if_pos rfl]
theorem nL_r {m : Mm} {z f : Nat} (hz : mZ m = z + 1) (h1 : 1 ≤ f) (h2 : f ≤ 28) (h8 : f ≠ 8) : mI (nLd m z) (z + f) = fun _ => 0 := by
  unfold nLd
  rw [rI_ne (by omega), nw_I hz, if_pos (by omega)]
theorem nL_8 {m : Mm} {z x : Nat} (h : x < 36) : mI (nLd m z) (z + 8) x = -nI 2 := by
  unfold nLd
  rw [rI_eq]
  exact if_pos h
theorem nL_J {m : Mm} {z a : Nat} (hz : mZ m = z + 1) (h : a ≤ z) : mJ (nLd m z) a = mJ m a := by
  unfold nLd
  rw [rI_J, nw_J hz, if_neg (by omega)]
theorem nL_R {m : Mm} {z a : Nat} (hz : mZ m = z + 1) (h : a < z) : mR (nLd m z) a = mR m a := by
  unfold nLd
  rw [rI_R2, nw_R hz h]
theorem nL_S {m : Mm} {z a : Nat} (hz : mZ m = z + 1) (h : a ≤ z) : mS (nLd m z) a = mS m a := by
  unfold nLd
  rw [rI_S2, nw_S hz, if_neg (by omega)]
theorem nL_Z {m : Mm} {z : Nat} (hz : mZ m = z + 1) : mZ (nLd m z) = z + 29 := by
  unfold nLd
  rw [rI_Z2, nw_Z hz]
/-- the reference at the beginning of a text: x its bytes -/
def lm1 (m : Mm) (x : Int32) : Mm := uI (uI (uI (uI (uI m 142 0 (nI 0)) 142 7 x) 142 6 (nI 0)) 142 8 (nI 0)) 142 14 (nI 0)
def lm2 (m : Mm) (z : Nat) (x : Int32) : Mm := nA (lm1 m x) 10 45
def lm3 (m : Mm) (z : Nat) (x : Int32) : Mm := uI (uR (nLd (lm2 m z x) z) 142 4 (some z)) 142 9 (nI 0)
theorem lm2_Z {m : Mm} {z : Nat} {x : Int32} (hz : mZ m = z) : mZ (lm2 m z x) = z + 1 := by unfold lm2 lm1; rw [nA_Z2, uI_Z2, uI_Z2, uI_Z2, uI_Z2, uI_Z2, hz]
theorem lm2_S {m : Mm} {z : Nat} {x : Int32} (hz : mZ m = z) : mS (lm2 m z x) z = (10, 45) := by
  unfold lm2 lm1
  rw [nA_S2, uI_Z2, uI_Z2, uI_Z2, uI_Z2, uI_Z2, hz, up_eq]
theorem lm2_Sl {m : Mm} {z a : Nat} {x : Int32} (hz : mZ m = z) (h : a < z) : mS (lm2 m z x) a = mS m a := by
  unfold lm2 lm1
  rw [nA_S2, uI_Z2, uI_Z2, uI_Z2, uI_Z2, uI_Z2, hz, up_ne (by omega), uI_S2, uI_S2, uI_S2, uI_S2, uI_S2]
theorem lm2_R {m : Mm} {z a : Nat} {x : Int32} (hz : mZ m = z) (h : a < z) : mR (lm2 m z x) a = mR m a := by
  unfold lm2 lm1
  rw [nA_R2, uI_Z2, uI_Z2, uI_Z2, uI_Z2, uI_Z2, hz, up_ne (by omega), uI_R2, uI_R2, uI_R2, uI_R2, uI_R2]
theorem lm2_J {m : Mm} {z a : Nat} {x : Int32} (hz : mZ m = z) (h : a < z) : mJ (lm2 m z x) a = mJ m a := by
  unfold lm2 lm1
  rw [nA_J2, uI_Z2, uI_Z2, uI_Z2, uI_Z2, uI_Z2, hz, up_ne (by omega), uI_J, uI_J, uI_J, uI_J, uI_J]
theorem lm2_I {m : Mm} {z a : Nat} {x : Int32} (hz : mZ m = z) (h : a < z) (h2 : a ≠ 142) : mI (lm2 m z x) a = mI m a := by
  unfold lm2 lm1
  rw [nA_I2, uI_Z2, uI_Z2, uI_Z2, uI_Z2, uI_Z2, hz, up_ne (by omega), uI_ne h2, uI_ne h2, uI_ne h2, uI_ne h2, uI_ne h2]
theorem lm2_z {m : Mm} {z : Nat} {x : Int32} (hz : mZ m = z) : mI (lm2 m z x) z = fun _ => 0 := by
  unfold lm2 lm1
  rw [nA_I2, uI_Z2, uI_Z2, uI_Z2, uI_Z2, uI_Z2, hz, up_eq]
/-- the fields of the reference at the beginning of a text -/
def lmF (f : Nat → Int32) (x : Int32) : Nat → Int32 := upd (upd (upd (upd (upd f 0 (nI 0)) 7 x) 6 (nI 0)) 8 (nI 0)) 14 (nI 0)
theorem lm2_142 {m : Mm} {z : Nat} {x : Int32} (hz : mZ m = z) (h : 158 ≤ z) : mI (lm2 m z x) 142 = lmF (mI m 142) x := by
  unfold lm2 lm1 lmF
  rw [nA_I2, uI_Z2, uI_Z2, uI_Z2, uI_Z2, uI_Z2, hz, up_ne (by omega), uI_eq, uI_eq, uI_eq, uI_eq, uI_eq]
theorem lm3_f {m : Mm} {z : Nat} {x : Int32} (hW : Wd m.2.2) (hz : mZ m = z) : Wd (lm3 m z x).2.2 ∧ NW (lm3 m z x).2.2 z ∧ va_rf (mR (lm3 m z x) 142 4) = .ref z ∧ (∀ a, a < z → a ≠ 142 → mI (lm3 m z x) a = mI m a) ∧ mI (lm3 m z x) 142 = upd (lmF (mI m 142) x) 9 (nI 0) ∧ (∀ a, a < z → mJ (lm3 m z x) a = mJ m a) ∧ (∀ a, a < z → a ≠ 142 → mR (lm3 m z x) a = mR m a) ∧ mR (lm3 m z x) 142 = va_up (mR m 142) 4 (some z) ∧ (∀ a, a < z → mS (lm3 m z x) a = mS m a) ∧ mZ (lm3 m z x) = z + 29 := by
  have h158 : 158 ≤ z := by have := hW.1; rw [← hz]; exact this
  have h2 := lm2_Z (x := x) hz
  have hR : ∀ a, a < z → mR (nLd (lm2 m z x) z) a = mR m a := fun a ha => (nL_R h2 ha).trans (lm2_R hz ha)
  have hS : ∀ a, a < z → mS (nLd (lm2 m z x) z) a = mS m a := fun a ha => (nL_S h2 (by omega)).trans (lm2_Sl hz ha)
  have hW2 : Wd (nLd (lm2 m z x) z).2.2 := Wd_same hW (by rw [nL_Z h2]; omega) (fun a ha => hS a (by omega)) (fun p hp => congrFun (hR p.1 (by have := (rfT_n p hp).1; omega)) _)
  have ez4 : mR (lm3 m z x) 142 = va_up (mR m 142) 4 (some z) := by
    unfold lm3
    rw [uI_R2, uR_eq, hR 142 (by omega)]
  have n1 : NW (nwF (lm2 m z x) z 28).2.2 z := nL_NW h2 (lm2_S hz)
  have n2 : NW (nLd (lm2 m z x) z).2.2 z := by unfold nLd; rw [rI_22]; exact n1
  have n3 : NW (uR (nLd (lm2 m z x) z) 142 4 (some z)).2.2 z := NW_uR n2 (by omega)
  have w3 : Wd (uR (nLd (lm2 m z x) z) 142 4 (some z)).2.2 := Wd_uR hW2 (Or.inl ⟨rfl, Or.inr rfl⟩)
  have n4 : NW (lm3 m z x).2.2 z := by unfold lm3; rw [uI_22]; exact n3
  have w4 : Wd (lm3 m z x).2.2 := by unfold lm3; rw [uI_22]; exact w3
  have z4 : mZ (lm3 m z x) = z + 29 := by unfold lm3; rw [uI_Z2, uR_Z2]; exact nL_Z h2
  have s4 : ∀ a, a < z → mS (lm3 m z x) a = mS m a := fun a ha => by unfold lm3; rw [uI_S2, uR_S2]; exact hS a ha
  refine ⟨w4, n4, ?_, fun a ha h => ?_, ?_, fun a ha => ?_, fun a ha h => ?_, ez4, s4, z4⟩
  · rw [ez4, up_eq]; rfl
  · unfold lm3
    rw [uI_ne h, uR_I]
    exact (nL_I h2 ha).trans (lm2_I hz ha h)
  · unfold lm3
    rw [uI_eq, uR_I, nL_I h2 (by omega), lm2_142 hz h158]
  · unfold lm3
    rw [uI_J, uR_J]
    exact (nL_J h2 (by omega)).trans (lm2_J hz ha)
  · unfold lm3
    rw [uI_R2, uR_ne h, hR a ha]
theorem lm3_E {m : Mm} {z : Nat} {x : Int32} (hW : Wd m.2.2) (hz : mZ m = z) : (∀ f, mI (lm3 m z x) (z + f) = mI (nLd (lm2 m z x) z) (z + f)) := fun f => by
  have h158 : 158 ≤ z := by have := hW.1; rw [← hz]; exact this
  unfold lm3
  rw [uI_ne (by omega), uR_I]
/-- a land of the reference without lines -/
def EQ0 (E : Nat → Nat → Int32) : Prop := (∀ x, E 0 x = if x = 16 then -nI 1 else 0) ∧ (∀ f, 1 ≤ f → f ≤ 28 → f ≠ 8 → E f = fun _ => 0) ∧ ∀ x, x < 36 → E 8 x = -nI 2
theorem lm3_Q {m : Mm} {z : Nat} {x : Int32} (hW : Wd m.2.2) (hz : mZ m = z) : EQ0 (fun f => mI (lm3 m z x) (z + f)) := by
  have h2 := lm2_Z (x := x) hz
  refine ⟨fun y => ?_, fun f h1 h3 h8 => ?_, fun y hy => ?_⟩
  · show mI (lm3 m z x) (z + 0) y = _
    rw [lm3_E hW hz 0, Nat.add_zero, nL_z h2, lm2_z hz]
    rfl
  · show mI (lm3 m z x) (z + f) = _
    rw [lm3_E hW hz f, nL_r h2 h1 h3 h8]
  · show mI (lm3 m z x) (z + 8) y = _
    rw [lm3_E hW hz 8, nL_8 hy]
theorem LQ_0 {Λ E : Nat → Nat → Int32} (h : EQ0 E) : LQ (cleF Λ) E := by
  obtain ⟨h0, hf, h8⟩ := h
  have hc : ∀ s, s < 13 → cleF Λ 1 s = nI 0 := fun s hs => cl_c hs
  have hn : ∀ s, s < 13 → nv (cleF Λ 1 s) = 0 := fun s hs => by rw [hc s hs]; exact nv_nI (by decide)
  have ez0 : ∀ x, x ≠ 16 → E 0 x = nI 0 := fun x hx => (h0 x).trans (if_neg hx)
  refine ⟨⟨ez0 0 (by decide), ez0 1 (by decide), (ez0 2 (by decide)).trans (hc 1 (by decide)).symm, ez0 3 (by decide), ?_, (ez0 5 (by decide)).trans (hc 2 (by decide)).symm, (ez0 6 (by decide)).trans (hc 4 (by decide)).symm, (ez0 7 (by decide)).trans (hc 5 (by decide)).symm, (ez0 8 (by decide)).trans (hc 6 (by decide)).symm, (ez0 9 (by decide)).trans (hc 7 (by decide)).symm, (ez0 10 (by decide)).trans (hc 8 (by decide)).symm, (ez0 11 (by decide)).trans (hc 9 (by decide)).symm, (ez0 12 (by decide)).trans (hc 10 (by decide)).symm, (ez0 13 (by decide)).trans (hc 11 (by decide)).symm, (ez0 14 (by decide)).trans (hc 12 (by decide)).symm⟩, ⟨fun _ => ⟨(h0 16).trans (if_pos rfl), rfl⟩, fun z => ?_⟩, fun v hv => ?_, fun v hv => ?_, fun v hv => ?_, fun v hv => ?_, fun v hv => ?_, fun v hv => ?_, fun v hv => ?_, fun v hv => ?_, ⟨fun v hv => ?_, fun v hv => ?_⟩, fun v hv => ?_, fun v hv => ?_⟩
  · rw [ez0 4 (by decide), hn 1 (by decide), Nat.zero_mul]; rfl
  · rw [hn 3 (by decide)] at z; exact absurd z (by decide)
  · rw [hf 1 (by decide) (by decide) (by decide)]; exact (fi_lt (f := Λ 2) (x := nI 0) hv).symm
  · rw [hn 4 (by decide)] at hv; omega
  · rw [hf 3 (by decide) (by decide) (by decide)]; exact (fi_lt (f := Λ 16) (x := nI 0) hv).symm
  · rw [hf 7 (by decide) (by decide) (by decide)]; exact (fi_lt (f := Λ 7) (x := nI 0) hv).symm
  · rw [h8 v hv]; exact (fi_lt (f := Λ 17) (x := -nI 2) hv).symm
  · rw [hf 9 (by decide) (by decide) (by decide)]; exact (fi_lt (f := Λ 8) (x := nI 0) hv).symm
  · rw [hn 8 (by decide)] at hv; omega
  · rw [hf 17 (by decide) (by decide) (by decide)]; exact (fi_lt (f := Λ 10) (x := nI 0) hv).symm
  · rw [hn 10 (by decide)] at hv; omega
  · rw [hf 19 (by decide) (by decide) (by decide)]; exact (fi_lt (f := Λ 18) (x := nI 0) hv).symm
  · rw [hn 11 (by decide)] at hv; omega
  · rw [hn 12 (by decide)] at hv; omega
theorem NR_0 {E : Nat → Nat → Int32} {L : Nat → Nat → Int64} {cs : Nat → Int64} {ss ns : Nat → Int32} (h : EQ0 E) : NR (0, cs, ss, ns) E L := ⟨(h.1 15).trans (if_neg (by decide)), Nat.zero_le _, fun j hj => absurd hj (Nat.not_lt_zero _)⟩
