theorem SV_m {I J : Nat → Nat → Int32} {b g : Nat} {v u : Nat → Int32} (h : SV I b v) (hv : ∀ x, x < 48 → u x = v x) (h0 : J g 0 = I b 0) (h1 : J g 1 = I b 1) (h2 : ∀ x, x < 6 → J (g + 1) x = I (b + 1) x) (h3 : ∀ x, x < 36 → J (g + 2) x = I (b + 2) x) (h4 : ∀ x, x < 4 → J (g + 3) x = I (b + 3) x) : SV J g u :=
  ⟨(hv 0 (by decide)).trans (h.1.trans h1.symm), fun x hx => (hv _ (by omega)).trans ((h.2.1 x hx).trans (h2 x hx).symm), fun x hx => (hv _ (by omega)).trans ((h.2.2.1 x hx).trans (h3 x hx).symm), fun x hx => (hv _ (by omega)).trans ((h.2.2.2.1 x hx).trans (h4 x hx).symm), (hv 47 (by decide)).trans (h.2.2.2.2.trans h0.symm)⟩
theorem SR_m {Λ I J : Nat → Nat → Int32} {b g : Nat} (h : SR Λ I b) (hp : nv (Λ 1 4) ≤ 6) (hq : nv (Λ 1 10) ≤ 4) (h0 : J g 0 = I b 0) (h2 : ∀ x, x < 6 → J (g + 1) x = I (b + 1) x) (h3 : ∀ x, x < 36 → J (g + 2) x = I (b + 2) x) (h4 : ∀ x, x < 4 → J (g + 3) x = I (b + 3) x) : SR Λ J g :=
  ⟨by rw [h0]; exact h.1, fun x hx => by rw [h2 x (by omega)]; exact h.2.1 x hx, fun x hx => by rw [h3 x hx]; exact h.2.2.1 x hx, fun x hx => by rw [h4 x (by omega)]; exact h.2.2.2 x hx⟩
theorem RelP_act {Λ I J K : Nat → Nat → Int32} {f w y : Nat} (hp : nv (Λ 1 4) ≤ 6) (hq : nv (Λ 1 10) ≤ 4) (hf : f < 12) (hw : w ≤ 12) (hy : y ≤ 3) (hv : SV I 20 (I 145)) (hr : SR Λ I 20) (h9 : ∀ i, i < w → SV I (27 + 4 * ((f + i) % 12)) (fun x => I 146 (48 * i + x)) ∧ SR Λ I (27 + 4 * ((f + i) % 12))) (h10 : ∀ j, j < y → SV I (75 + 4 * j) (fun x => I 147 (48 * j + x)) ∧ SR Λ I (75 + 4 * j)) (hk : akP I K f w) (hJ : ∀ r, r = 24 ∨ (27 ≤ r ∧ r < 87) → J r = K r) (h4 : I 24 4 = nI y) (h21 : J 142 21 = nI (if w = 12 then 12 else w + 1)) (h22 : J 142 22 = nI y) (h146 : J 146 = cpF (if w = 12 then shF (I 146) 528 else I 146) (I 145) (48 * (if w = 12 then 11 else w)) 48) (h147 : J 147 = I 147) : RelP Λ J := by
  obtain ⟨kz1, kz2, kz3, kz4, kz5, kz6, kz7, kz8, kz9⟩ := hk
  have hs : (f + w) % 12 < 12 := Nat.mod_lt _ (by decide)
  have ez24 := hJ 24 (Or.inl rfl)
  have cp : SV J (27 + 4 * ((f + w) % 12)) (I 145) ∧ SR Λ J (27 + 4 * ((f + w) % 12)) := by
    have g0 := hJ (27 + 4 * ((f + w) % 12)) (by omega)
    have g1 := hJ (27 + 4 * ((f + w) % 12) + 1) (by omega)
    have g2 := hJ (27 + 4 * ((f + w) % 12) + 2) (by omega)
    have g3 := hJ (27 + 4 * ((f + w) % 12) + 3) (by omega)
    exact ⟨SV_m hv (fun _ _ => rfl) (by rw [g0, kz5]) (by rw [g0, kz6]) (fun x hx => by rw [g1, kz7 x hx]) (fun x hx => by rw [g2, kz8 x hx]) (fun x hx => by rw [g3, kz9 x hx]), SR_m hr hp hq (by rw [g0, kz5]) (fun x hx => by rw [g1, kz7 x hx]) (fun x hx => by rw [g2, kz8 x hx]) (fun x hx => by rw [g3, kz9 x hx])⟩
  have old : ∀ s, s < 12 → s ≠ (f + w) % 12 → ∀ v u : Nat → Int32, (∀ x, x < 48 → u x = v x) → SV I (27 + 4 * s) v ∧ SR Λ I (27 + 4 * s) → SV J (27 + 4 * s) u ∧ SR Λ J (27 + 4 * s) := fun s h12 hne v u huv hh => by
    have g0 : J (27 + 4 * s) = I (27 + 4 * s) := (hJ _ (by omega)).trans (kz1 _ (by omega) (by omega))
    have g1 : J (27 + 4 * s + 1) = I (27 + 4 * s + 1) := (hJ _ (by omega)).trans (kz1 _ (by omega) (by omega))
    have g2 : J (27 + 4 * s + 2) = I (27 + 4 * s + 2) := (hJ _ (by omega)).trans (kz1 _ (by omega) (by omega))
    have g3 : J (27 + 4 * s + 3) = I (27 + 4 * s + 3) := (hJ _ (by omega)).trans (kz1 _ (by omega) (by omega))
    exact ⟨SV_m hh.1 huv (by rw [g0]) (by rw [g0]) (fun x _ => by rw [g1]) (fun x _ => by rw [g2]) (fun x _ => by rw [g3]), SR_m hh.2 hp hq (by rw [g0]) (fun x _ => by rw [g1]) (fun x _ => by rw [g2]) (fun x _ => by rw [g3])⟩
  refine ⟨if w = 12 then (f + 1) % 12 else f, if w = 12 then 12 else w + 1, y, ?_, ?_, hy, by rw [ez24]; exact kz3, by rw [ez24]; exact kz4, by rw [ez24, kz2 4 (by decide) (by decide)]; exact h4, h21, h22, fun i hi => ?_, fun j hj => ?_⟩
  · split <;> omega
  · split <;> omega
  · rw [h146]
    by_cases e : w = 12
    · rw [if_pos e] at hi
      rw [if_pos e, if_pos e, if_pos e]
      by_cases ez11 : i = 11
      · have es : ((f + 1) % 12 + i) % 12 = (f + w) % 12 := by omega
        rw [es]
        refine ⟨SV_m cp.1 (fun x hx => ?_) rfl rfl (fun _ _ => rfl) (fun _ _ => rfl) (fun _ _ => rfl), cp.2⟩
        show cpF _ _ _ _ (48 * i + x) = _
        rw [ez11, cpF_i hx]
      · have es : ((f + 1) % 12 + i) % 12 = (f + (i + 1)) % 12 := by omega
        rw [es]
        refine old _ (Nat.mod_lt _ (by decide)) (by omega) (fun x => I 146 (48 * (i + 1) + x)) _ (fun x hx => ?_) (h9 (i + 1) (by omega))
        show cpF _ _ _ _ (48 * i + x) = _
        rw [cpF_o (by omega)]
        unfold shF
        rw [if_pos (by omega), show 48 * i + x + 48 = 48 * (i + 1) + x by omega]
    · rw [if_neg e] at hi
      rw [if_neg e, if_neg e, if_neg e]
      by_cases ew : i = w
      · rw [ew]
        refine ⟨SV_m cp.1 (fun x hx => ?_) rfl rfl (fun _ _ => rfl) (fun _ _ => rfl) (fun _ _ => rfl), cp.2⟩
        show cpF _ _ _ _ (48 * w + x) = _
        rw [cpF_i hx]
      · refine old _ (Nat.mod_lt _ (by decide)) (by omega) (fun x => I 146 (48 * i + x)) _ (fun x hx => ?_) (h9 i (by omega))
        show cpF _ _ _ _ (48 * i + x) = _
        rw [cpF_o (by omega)]
  · have hh := h10 j hj
    have g0 : J (75 + 4 * j) = I (75 + 4 * j) := (hJ _ (by omega)).trans (kz1 _ (by omega) (by omega))
    have g1 : J (75 + 4 * j + 1) = I (75 + 4 * j + 1) := (hJ _ (by omega)).trans (kz1 _ (by omega) (by omega))
    have g2 : J (75 + 4 * j + 2) = I (75 + 4 * j + 2) := (hJ _ (by omega)).trans (kz1 _ (by omega) (by omega))
    have g3 : J (75 + 4 * j + 3) = I (75 + 4 * j + 3) := (hJ _ (by omega)).trans (kz1 _ (by omega) (by omega))
    rw [h147]
    exact ⟨SV_m hh.1 (fun _ _ => rfl) (by rw [g0]) (by rw [g0]) (fun x _ => by rw [g1]) (fun x _ => by rw [g2]) (fun x _ => by rw [g3]), SR_m hh.2 hp hq (by rw [g0]) (fun x _ => by rw [g1]) (fun x _ => by rw [g2]) (fun x _ => by rw [g3])⟩
/-- the states have changed, and the days are stale -/
theorem Rel_st {z : Nat} {m n : Mm} {a b q : Nat} (hW : Wd m.2.2) (hz : mZ m = z) (hA : RelA m a b) (hX : RelX m a) (hq1 : RelL1 m a q) (h22 : n.2.2 = m.2.2) (hI : ∀ r, ¬ scr r → r ≠ 0 → r ≠ 142 → r ≠ 24 → r ≠ 145 → r ≠ 146 → r ≠ 147 → (r < 20 ∨ 87 ≤ r) → mI n r = mI m r) (h140 : mI m 139 4 = nI 1 → mI n 140 = mI m 140) (hS : RelS (mI n)) (h12 : mI n 0 12 = nI 1) (g6 : mI n 142 6 = mI m 142 6) (hP : RelP (lam m a) (mI n)) (hV : SV (mI n) 20 (mI n 145)) (hR : SR (lam m a) (mI n) 20) : Rel z n := by
  have eZ : mZ n = mZ m := congrArg (fun w : WR => w.2.2) h22
  have eR : mR n = mR m := congrArg (fun w : WR => w.1) h22
  have ha : a = 1 ∨ a = 93 := hA.1.elim (fun z => Or.inl z.1) (fun z => Or.inr z.1)
  have hi : ∀ r, r ≠ 0 → (r < 20 ∨ (87 ≤ r ∧ r < 124) ∨ r = 139 ∨ r = 143 ∨ 158 ≤ r) → mI n r = mI m r := fun r h0 hr => hI r (by unfold scr; omega) h0 (by omega) (by omega) (by omega) (by omega) (by omega) (by omega)
  have hla : ∀ f, f < 19 → mI n (a + f) = mI m (a + f) := fun f hf => hi _ (by omega) (by omega)
  have el1 : lam n a 1 = lam m a 1 := hla 1 (by decide)
  obtain ⟨hT, -, -, -, -, hE⟩ := hX
  obtain ⟨b1, b2, b3, b4, ⟨T, b5⟩, b6, b7, b8, b9⟩ := hq1
  refine ⟨by rw [h22]; exact hW, eZ.trans hz, hS, a, b, ?_, ?_, hV, Or.inr ⟨q, b1, by rw [eZ]; exact b2, by rw [h22]; exact b3, by rw [eR]; exact b4, ⟨T, LRI_19 (fun f hf => hla f hf) b5⟩, by rw [show mI n (a + 1) = mI m (a + 1) from hla 1 (by decide)]; exact b6, ?_, LQ_19 (fun f hf => hla f hf) (LQ_29 (E := lam m q) (fun f hf => hi _ (by omega) (by omega)) b8), ?_⟩, ?_, Or.inl h12, ?_⟩
  · unfold RelA at hA ⊢
    rw [eR]
    exact hA
  · unfold RelT at hT ⊢
    rw [hi 88 (by omega) (by omega), hi 143 (by omega) (by omega), hi 89 (by omega) (by omega), g6]
    exact hT
  · show ¬ laP (lam n a)
    unfold laP
    rw [show lam n a 0 = lam m a 0 from hla 0 (by decide), el1]
    exact b7
  · unfold SR at hR ⊢
    rw [el1]
    exact hR
  · unfold RelP SR at hP ⊢
    rw [el1]
    exact hP
  · unfold RelE at hE ⊢
    rw [hi 139 (by omega) (by omega)]
    rcases hE with hE | ⟨cz1, cz2⟩
    · exact Or.inl hE
    · refine Or.inr ⟨cz1, ?_⟩
      rw [hla 12 (by decide), hla 13 (by decide), show mI n a = mI m a from hla 0 (by decide), show mI n (a + 1) = mI m (a + 1) from hla 1 (by decide)]
      exact NI_2 (hi 139 (by omega) (by omega)) (h140 cz1) cz2
/-- an act: the class has kept its state (m9), changed it (g), the reference too (m8), and changed it (n) -/
theorem Rel_act {z : Nat} {m m9 g m8 n : Mm} {a b q f w y : Nat} (hW : Wd m.2.2) (hz : mZ m = z) (hSS : RelS (mI m)) (hA : RelA m a b) (hX : RelX m a) (hq1 : RelL1 m a q) (hf : f < 12) (hw : w ≤ 12) (hy : y ≤ 3) (h4 : mI m 24 4 = nI y) (h22y : mI m 142 22 = nI y) (cz9 : ∀ i, i < w → SV (mI m) (27 + 4 * ((f + i) % 12)) (fun x => mI m 146 (48 * i + x)) ∧ SR (lam m a) (mI m) (27 + 4 * ((f + i) % 12))) (cz10 : ∀ j, j < y → SV (mI m) (75 + 4 * j) (fun x => mI m 147 (48 * j + x)) ∧ SR (lam m a) (mI m) (75 + 4 * j)) (hak : akP (mI m) (mI m9) f w) (a22 : m9.2.2 = m.2.2) (g22 : g.2.2 = m9.2.2) (gr : ∀ r, r ≠ 0 → (r < 20 ∨ 24 ≤ r) → mI g r = mI m9 r) (g00 : mI g 0 0 = nI 0) (g01 : mI g 0 1 = mI m9 0 1) (g12 : mI g 0 12 = nI 1) (hke : keP (mI (uI g 142 0 (nI 0))) (mI m8) w) (kz22 : m8.2.2 = (uI g 142 0 (nI 0)).2.2) (n22 : n.2.2 = m8.2.2) (nr : ∀ r, r ≠ 142 → r ≠ 145 → mI n r = mI m8 r) (n1 : mI n 142 1 = nI 0) (n2 : mI n 142 2 = -nI 1) (nx : ∀ x, x ≠ 1 → x ≠ 2 → mI n 142 x = mI m8 142 x) (hV : SV (mI n) 20 (mI n 145)) (hR : SR (lam m a) (mI n) 20) : Rel z n := by
  obtain ⟨p1, p2, p3, p4⟩ := hke
  have pg : ∀ r, r ≠ 142 → r ≠ 146 → r ≠ 145 → mI n r = mI g r := fun r h1 h2 h3 => by rw [nr r h1 h3, p1 r h1 h2, uI_ne h1]
  have pm : ∀ r, r ≠ 0 → r ≠ 24 → r ≠ 142 → r ≠ 145 → r ≠ 146 → (r < 20 ∨ 87 ≤ r) → mI n r = mI m r := fun r h0 h1 h2 h3 h5 h6 => by
    have hs : (f + w) % 12 < 12 := Nat.mod_lt _ (by decide)
    rw [pg r h2 h5 h3, gr r h0 (by omega), hak.1 r h1 (by omega)]
  have px : ∀ x, x ≠ 0 → x ≠ 1 → x ≠ 2 → x ≠ 21 → mI n 142 x = mI m 142 x := fun x h0 h1 h2 h3 => by
    have hs : (f + w) % 12 < 12 := Nat.mod_lt _ (by decide)
    rw [nx x h1 h2, p2 x h3, uI_eq, upd_o h0, gr 142 (by decide) (by decide), hak.1 142 (by decide) (by omega)]
  have hs : (f + w) % 12 < 12 := Nat.mod_lt _ (by decide)
  have p0 : mI n 0 = mI g 0 := pg 0 (by decide) (by decide) (by decide)
  have m0 : mI m9 0 = mI m 0 := hak.1 0 (by decide) (by omega)
  have hcs := hq1.2.2.2.2.1
  obtain ⟨T, hI⟩ := hcs
  have hp4 : nv (lam m a 1 4) ≤ 6 := (hI.1 4 (by decide)).2
  have hp10 : nv (lam m a 1 10) ≤ 4 := (hI.1 10 (by decide)).2
  have t145 : mI (uI g 142 0 (nI 0)) 145 = mI m 145 := by rw [uI_ne (by decide), gr 145 (by decide) (by decide), hak.1 145 (by decide) (by omega)]
  have t146 : mI (uI g 142 0 (nI 0)) 146 = mI m 146 := by rw [uI_ne (by decide), gr 146 (by decide) (by decide), hak.1 146 (by decide) (by omega)]
  refine Rel_st hW hz hA hX hq1 (n22.trans (kz22.trans (uI_22.trans (g22.trans a22)))) (fun r _ h0 h1 h2 h3 h5 _ h6 => pm r h0 h2 h1 h3 h5 h6) (fun _ => pm 140 (by decide) (by decide) (by decide) (by decide) (by decide) (by decide)) ⟨?_, ?_, ?_⟩ (by rw [p0, g12]) (px 6 (by decide) (by decide) (by decide) (by decide)) ?_ hV hR
  · rw [n1, p0, g00]
  · rw [px 14 (by decide) (by decide) (by decide) (by decide), p0, g01, m0]
    exact hSS.2.1
  · rw [n2, p0, g00, if_neg (by decide)]
  · refine RelP_act (K := mI m9) hp4 hp10 hf hw hy hX.2.1 hq1.2.2.2.2.2.2.2.2 cz9 cz10 hak (fun r hr => ?_) h4 ?_ ?_ ?_ (pm 147 (by decide) (by decide) (by decide) (by decide) (by decide) (by decide))
    · rw [pg r (by omega) (by omega) (by omega), gr r (by omega) (by omega)]
    · rw [nx 21 (by decide) (by decide), p3]
    · rw [px 22 (by decide) (by decide) (by decide) (by decide), h22y]
    · rw [nr 146 (by decide) (by decide), p4, t145, t146]
