theorem lrr_c {sc : Nat × (Nat → Int32)} {d : Nat} {m : Mm} {Q : Option Value → Mm → Prop} {q n nt nvl : Nat} {wo : Nat → Int32} (hd : 6 ≤ d) (hW : Wd m.2.2) (hN : NW m.2.2 q) (h158 : 158 ≤ q) (hq : va_rf (mR m 142 3) = .ref q) (hn : mI m q 6 = nI n) (hn6 : n ≤ 6) (hnt : mI m q 5 = nI nt) (hnt6 : nt ≤ 6) (hvl : mI m q 12 = nI nvl) (hv4 : nvl ≤ 4) (hho : ∀ v, v < nvl → iR (mI m (q + 18) v) 24) (hce : ∀ c, c < 24 → iR (mI m (q + 1) c) 5) (hwo : ∀ k, k < nvl → ∀ g, g < n → wo (k * 6 + g) = if bi (mI m (q + 2) g = nI 3 ∨ bq (mI m 145 0) (nI g)) = 0 then wsQ (mI m (q + 7)) g (nv (mI m (q + 1) (nv (mI m (q + 18) k)))) nt else nI 0) (hwr : ∀ k, k < nvl → ∀ g, g < n → ∃ w, w ≤ 200 ∧ wo (k * 6 + g) = nI w) (hn0 : 0 < n) (hp : n ^ nvl ≤ 1296) (hQ : ∀ D, Q (some (.int (crQ wo nvl n (n ^ nvl)))) (uI (uI (bput m 155 1 D) 142 1 (nI 0)) 142 2 (-nI 1))) {u : Nat} (hu : u < n ^ nvl) (hk : ∀ D, Jj sc d 0 0 (mth 309) (pg P309 31).1 [some (.ref 142), some (.int (nI ((n ^ nvl)))), some (.int (crQ wo nvl n (u + 1))), some (.int (nI (u + 1))), none, none] [] (bput m 155 1 D) 0 0 Q)  : ∀ (j v : Nat) (D : Nat → Nat → Int32), v ≤ nvl → nvl + 1 ≤ v + j → (∀ v1, v1 < v → D 0 v1 = rwF n u v1) → Jj sc d 0 0 (mth 309) (pg P309 38).1 [some (.ref 142), some (.int (nI ((n ^ nvl)))), some (.int (crQ wo nvl n u)), some (.int (nI u)), some (.int (nI (u / n ^ v))), some (.int (nI v))] [] (bput m 155 1 D) 0 0 Q := by
  intro j
  induction j with
  | zero => intro v D h1 h2 hall; omega
  | succ j ih =>
    intro v D h1 h2 hall
    refine J_w z309 (i := 38) (by decide) 170 ?_
    refine And.intro (Wdo_142 hW) (Exists.intro _ (And.intro hq ?_))
    refine And.intro (NWo_0 hN) ?_
    rw [bput_hi (m := m) (x := 155) (n := 1) (D := D) (b := q) (by omega)]
    rw [hvl]
    refine And.intro (fun cz42 => ?_) (fun cz42 => ?_)
    · -- 42 taken: nI nvl ≤ nI v
      have kz42 : nvl ≤ v := kle (a := nvl) (b := v) rfl rfl (by omega) (by omega) cz42
      refine And.intro ⟨by omega, Nat.le_of_ble_eq_true rfl, Nat.le_refl _, Nat.le_refl _⟩ (And.intro (Wdo_142 hW) ?_)
      refine D305 (R := D 0) (by omega) hW hN h158 hq hn hn6 hnt hnt6 hvl hv4 hho hce hwo hwr (fun v1 h9 => ⟨_, Nat.mod_lt _ hn0, hall v1 (by omega)⟩) hn0 (fun D1 ez1 => ?_) rfl
      refine And.intro (fun cz63 => ?_) (fun cz63 => ?_)
      · -- 63 taken: bi (rsP (D 0) wo nvl n) = 0
        show Jj sc d 0 0 (mth 309) (pg P309 31).1 [some (.ref 142), some (.int (nI ((n ^ nvl)))), some (.int ((crQ wo nvl n u) + nI 0)), some (.int (nI u + nI 1)), some (.int (nI (u / n ^ v))), some (.int (nI v))] [] (bput m 155 1 D1) 0 0 Q
        rw [show nI u + nI 1 = nI (u + 1) from by simp only [nI_add, pk_mul]]
        refine J_wk (L' := [some (.ref 142), some (.int (nI ((n ^ nvl)))), some (.int ((crQ wo nvl n u) + nI 0)), some (.int (nI (u + 1))), none, none]) ⟨rfl, rfl, rfl, rfl, trivial⟩ ?_
        have hz9 := hk D1
        rw [crQ_s] at hz9
        unfold crS at hz9
        have hall9 : ∀ v1, v1 < nvl → D 0 v1 = rwF n u v1 := fun v1 h9 => hall v1 (by omega)
        rw [bi_c (rsP_c (r' := rwF n u) hall9)] at cz63
        rw [if_pos cz63] at hz9
        rw [add_z]
        exact hz9
      · -- 63 not: ¬ bi (rsP (D 0) wo nvl n) = 0
        show Jj sc d 0 0 (mth 309) (pg P309 31).1 [some (.ref 142), some (.int (nI ((n ^ nvl)))), some (.int ((crQ wo nvl n u) + nI 1)), some (.int (nI u + nI 1)), some (.int (nI (u / n ^ v))), some (.int (nI v))] [] (bput m 155 1 D1) 0 0 Q
        rw [show nI u + nI 1 = nI (u + 1) from by simp only [nI_add, pk_mul]]
        refine J_wk (L' := [some (.ref 142), some (.int (nI ((n ^ nvl)))), some (.int ((crQ wo nvl n u) + nI 1)), some (.int (nI (u + 1))), none, none]) ⟨rfl, rfl, rfl, rfl, trivial⟩ ?_
        have hz9 := hk D1
        rw [crQ_s] at hz9
        unfold crS at hz9
        have hall9 : ∀ v1, v1 < nvl → D 0 v1 = rwF n u v1 := fun v1 h9 => hall v1 (by omega)
        rw [bi_c (rsP_c (r' := rwF n u) hall9)] at cz63
        rw [if_neg cz63] at hz9
        exact hz9
    · -- 42 not: ¬ nI nvl ≤ nI v
      have kz42 : v < nvl := knle (a := nvl) (b := v) rfl rfl (by omega) (by omega) cz42
      refine And.intro (Wdo_142 hW) (Exists.intro _ (And.intro (Wdr_142_30 hW) ?_))
      refine And.intro (Wdo_142 hW) (Exists.intro _ (And.intro hq ?_))
      refine And.intro (NWo_0 hN) ?_
      rw [bput_hi (m := m) (x := 155) (n := 1) (D := D) (b := q) (by omega)]
      rw [hn]
      refine And.intro (nI_ne0 hn0 (by omega)) ?_
      refine And.intro (Wdi_155 hW (vi rfl (by omega))) ?_
      rw [nI_clamp (show v < 2 ^ 31 by omega)]
      rw [bput_u0 (x := 155) (by decide)]
      refine And.intro (Wdo_142 hW) (Exists.intro _ (And.intro hq ?_))
      refine And.intro (NWo_0 hN) ?_
      rw [bput_hi (m := m) (x := 155) (n := 1) (D := (ud D 0 v ((nI (u / n ^ v)) - (nI (u / n ^ v)) / nI n * nI n))) (b := q) (by omega)]
      rw [hn]
      refine And.intro (nI_ne0 hn0 (by omega)) ?_
      show Jj sc d 0 0 (mth 309) (pg P309 38).1 [some (.ref 142), some (.int (nI ((n ^ nvl)))), some (.int (crQ wo nvl n u)), some (.int (nI u)), some (.int ((nI (u / n ^ v)) / nI n)), some (.int (nI v + nI 1))] [] (bput m 155 1 (ud D 0 v ((nI (u / n ^ v)) - (nI (u / n ^ v)) / nI n * nI n))) 0 0 Q
      rw [show nI v + nI 1 = nI (v + 1) from by simp only [nI_add, pk_mul]]
      rw [dv2 (n := n) (u := u) (v := v) (by omega) hn0 hn6, dv1 (n := n) (u := u) (v := v) (by omega) hn0 hn6]
      refine ih (v + 1) _ (by omega) (by omega) (fun v1 h9 => ?_)
      rw [ud_0]
      by_cases ez9 : v1 = v
      · rw [ez9, upd_e]
      · rw [upd_o ez9]; exact hall v1 (by omega)
theorem lrr_b {sc : Nat × (Nat → Int32)} {d : Nat} {m : Mm} {Q : Option Value → Mm → Prop} {q n nt nvl : Nat} {wo : Nat → Int32} (hd : 6 ≤ d) (hW : Wd m.2.2) (hN : NW m.2.2 q) (h158 : 158 ≤ q) (hq : va_rf (mR m 142 3) = .ref q) (hn : mI m q 6 = nI n) (hn6 : n ≤ 6) (hnt : mI m q 5 = nI nt) (hnt6 : nt ≤ 6) (hvl : mI m q 12 = nI nvl) (hv4 : nvl ≤ 4) (hho : ∀ v, v < nvl → iR (mI m (q + 18) v) 24) (hce : ∀ c, c < 24 → iR (mI m (q + 1) c) 5) (hwo : ∀ k, k < nvl → ∀ g, g < n → wo (k * 6 + g) = if bi (mI m (q + 2) g = nI 3 ∨ bq (mI m 145 0) (nI g)) = 0 then wsQ (mI m (q + 7)) g (nv (mI m (q + 1) (nv (mI m (q + 18) k)))) nt else nI 0) (hwr : ∀ k, k < nvl → ∀ g, g < n → ∃ w, w ≤ 200 ∧ wo (k * 6 + g) = nI w) (hn0 : 0 < n) (hp : n ^ nvl ≤ 1296) (hQ : ∀ D, Q (some (.int (crQ wo nvl n (n ^ nvl)))) (uI (uI (bput m 155 1 D) 142 1 (nI 0)) 142 2 (-nI 1)))  : ∀ (j u : Nat) (D : Nat → Nat → Int32), u ≤ n ^ nvl → n ^ nvl + 1 ≤ u + j → Jj sc d 0 0 (mth 309) (pg P309 31).1 [some (.ref 142), some (.int (nI ((n ^ nvl)))), some (.int (crQ wo nvl n u)), some (.int (nI u)), none, none] [] (bput m 155 1 D) 0 0 Q := by
  intro j
  induction j with
  | zero => intro u D h1 h2; omega
  | succ j ih =>
    intro u D h1 h2
    refine J_w z309 (i := 31) (by decide) 170 ?_
    refine And.intro (fun cz33 => ?_) (fun cz33 => ?_)
    · -- 33 taken: nI ((n ^ nvl)) ≤ nI u
      have kz33 : (n ^ nvl) ≤ u := kle (a := (n ^ nvl)) (b := u) rfl rfl (by omega) (by omega) cz33
      refine And.intro ⟨by omega, Nat.le_of_ble_eq_true rfl, Nat.le_refl _, Nat.le_refl _⟩ (And.intro (Wdo_142 hW) ?_)
      refine C202 (m := (bput m 155 1 D)) hW ?_
      refine And.intro ⟨rfl, trivial, Nat.le_refl _, Nat.le_refl _⟩ ?_
      rw [show u = n ^ nvl by omega]
      exact hQ D
    · -- 33 not: ¬ nI ((n ^ nvl)) ≤ nI u
      have kz33 : u < (n ^ nvl) := knle (a := (n ^ nvl)) (b := u) rfl rfl (by omega) (by omega) cz33
      show Jj sc d 0 0 (mth 309) (pg P309 38).1 [some (.ref 142), some (.int (nI ((n ^ nvl)))), some (.int (crQ wo nvl n u)), some (.int (nI u)), some (.int (nI u)), some (.int (nI 0))] [] (bput m 155 1 D) 0 0 Q
      have z := lrr_c (sc := sc) (by omega) hW hN h158 hq hn hn6 hnt hnt6 hvl hv4 hho hce hwo hwr hn0 hp hQ (u := u) kz33 (fun D1 => ih (u + 1) D1 (by omega) (by omega)) (nvl + 1) 0 D (Nat.zero_le _) (by omega) (fun _ h => absurd h (by omega))
      rw [Nat.pow_zero, Nat.div_one] at z
      exact z
theorem lrr_a {sc : Nat × (Nat → Int32)} {d : Nat} {m : Mm} {Q : Option Value → Mm → Prop} {q n nt nvl : Nat} {wo : Nat → Int32} (hd : 6 ≤ d) (hW : Wd m.2.2) (hN : NW m.2.2 q) (h158 : 158 ≤ q) (hq : va_rf (mR m 142 3) = .ref q) (hn : mI m q 6 = nI n) (hn6 : n ≤ 6) (hnt : mI m q 5 = nI nt) (hnt6 : nt ≤ 6) (hvl : mI m q 12 = nI nvl) (hv4 : nvl ≤ 4) (hho : ∀ v, v < nvl → iR (mI m (q + 18) v) 24) (hce : ∀ c, c < 24 → iR (mI m (q + 1) c) 5) (hwo : ∀ k, k < nvl → ∀ g, g < n → wo (k * 6 + g) = if bi (mI m (q + 2) g = nI 3 ∨ bq (mI m 145 0) (nI g)) = 0 then wsQ (mI m (q + 7)) g (nv (mI m (q + 1) (nv (mI m (q + 18) k)))) nt else nI 0) (hwr : ∀ k, k < nvl → ∀ g, g < n → ∃ w, w ≤ 200 ∧ wo (k * 6 + g) = nI w) (hn0 : 0 < n) (hp : n ^ nvl ≤ 1296) (hQ : ∀ D, Q (some (.int (crQ wo nvl n (n ^ nvl)))) (uI (uI (bput m 155 1 D) 142 1 (nI 0)) 142 2 (-nI 1))) {D : Nat → Nat → Int32}  : ∀ (j v : Nat), v ≤ nvl → nvl + 1 ≤ v + j → Jj sc d 0 0 (mth 309) (pg P309 14).1 [some (.ref 142), some (.int (nI ((n ^ v)))), some (.int (nI v)), none, none, none] [] (bput m 155 1 D) 0 0 Q := by
  intro j
  induction j with
  | zero => intro v h1 h2; omega
  | succ j ih =>
    intro v h1 h2
    refine J_w z309 (i := 14) (by decide) 170 ?_
    refine And.intro (Wdo_142 hW) (Exists.intro _ (And.intro hq ?_))
    refine And.intro (NWo_0 hN) ?_
    rw [bput_hi (m := m) (x := 155) (n := 1) (D := D) (b := q) (by omega)]
    rw [hvl]
    refine And.intro (fun cz18 => ?_) (fun cz18 => ?_)
    · -- 18 taken: nI nvl ≤ nI v
      have kz18 : nvl ≤ v := kle (a := nvl) (b := v) rfl rfl (by omega) (by omega) cz18
      show Jj sc d 0 0 (mth 309) (pg P309 31).1 [some (.ref 142), some (.int (nI ((n ^ v)))), some (.int (nI 0)), some (.int (nI 0)), none, none] [] (bput m 155 1 D) 0 0 Q
      rw [show v = nvl by omega]
      exact lrr_b (by omega) hW hN h158 hq hn hn6 hnt hnt6 hvl hv4 hho hce hwo hwr hn0 hp hQ (n ^ nvl + 1) 0 D (Nat.zero_le _) (by omega)
    · -- 18 not: ¬ nI nvl ≤ nI v
      have kz18 : v < nvl := knle (a := nvl) (b := v) rfl rfl (by omega) (by omega) cz18
      refine And.intro (Wdo_142 hW) (Exists.intro _ (And.intro hq ?_))
      refine And.intro (NWo_0 hN) ?_
      rw [bput_hi (m := m) (x := 155) (n := 1) (D := D) (b := q) (by omega)]
      rw [hn]
      show Jj sc d 0 0 (mth 309) (pg P309 14).1 [some (.ref 142), some (.int (nI (n ^ v) * nI n)), some (.int (nI v + nI 1)), none, none, none] [] (bput m 155 1 D) 0 0 Q
      rw [show nI v + nI 1 = nI (v + 1) from by simp only [nI_add, pk_mul]]
      rw [pk_mul, ← Nat.pow_succ]
      exact ih (v + 1) (by omega) (by omega)
theorem P_rests {d : Nat} {m : Mm} {Q : Option Value → Mm → Prop} {z : Nat} (hd : 16 ≤ d) (hR : Rel z m) (h : ∀ (r : Int32) m1, Wd m1.2.2 → (∀ Q2 : Option Value → Mm → Prop, (∀ m2, Rel z m2 → Q2 (some (.int r)) m2) → Cc d 0 0 309 [.ref 142] m1 Q2) → Q (some (.int r)) m1) : Cc d 0 0 153 [.ref 0] m Q := by
  obtain ⟨hW, hz, hS, a, b, hA, hX⟩ := id hR
  obtain ⟨hL, hLb, hab, ha, hb⟩ := RelA_L hW hA
  obtain ⟨n2r, hn2, bn2, ln2⟩ := RL_n (s := 2) (f := 5) hX.2.2.1 (by decide) (fun _ _ h => h.2.2.2.2.2.1)
  change n2r ≤ 6 at bn2
  obtain ⟨n4r, hn4, bn4, ln4⟩ := RL_n (s := 4) (f := 6) hX.2.2.1 (by decide) (fun _ _ h => h.2.2.2.2.2.2.1)
  change n4r ≤ 6 at bn4
  obtain ⟨n8r, hn8, bn8, ln8⟩ := RL_n (s := 8) (f := 10) hX.2.2.1 (by decide) (fun _ _ h => h.2.2.2.2.2.2.2.2.2.2.1)
  change n8r ≤ 8 at bn8
  obtain ⟨n10r, hn10, bn10, ln10⟩ := RL_n (s := 10) (f := 12) hX.2.2.1 (by decide) (fun _ _ h => h.2.2.2.2.2.2.2.2.2.2.2.2.1)
  change n10r ≤ 4 at bn10
  rcases RL_st hX.2.2.1 with ⟨hL0, hst0⟩ | ⟨q, hq1, hst0⟩
  · skip
    refine ent (n := 62) z153 (by decide) rfl (by decide) (Nat.le_of_ble_eq_true rfl) (fun sc => ?_)
    refine And.intro (Wdo_0 hW) (Exists.intro _ (And.intro ha ?_))
    refine And.intro ⟨by omega, Nat.le_of_ble_eq_true rfl, Nat.le_refl _, Nat.le_refl _⟩ (And.intro (LWo_0 hL) ?_)
    refine C21 hL ?_
    refine And.intro (fun cz3 => False.elim (absurd (bi_ne0.mp cz3) (hst0))) (fun cz3 => ?_)
    refine And.intro ⟨by omega, Nat.le_of_ble_eq_true rfl, Nat.le_refl _, Nat.le_refl _⟩ (And.intro (Wdo_0 hW) ?_)
    refine C176 hW ?_
    refine And.intro ⟨rfl, trivial, Nat.le_refl _, Nat.le_refl _⟩ ?_
    refine h _ _ hW (fun Q2 h2 => ?_)
    refine ent (n := 170) z309 (by decide) rfl (by decide) (Nat.le_of_ble_eq_true rfl) (fun sc2 => ?_)
    refine And.intro (Wdo_142 hW) ?_
    refine And.intro (Wdo_142 hW) (Exists.intro _ (And.intro (show va_rf (mR m 142 3) = .null by rw [hL0.1]; rfl) ?_))
    refine And.intro ⟨by omega, Nat.le_of_ble_eq_true rfl, Nat.le_refl _, Nat.le_refl _⟩ (And.intro (Wdo_142 hW) ?_)
    refine C200 (m := (uI (uI m 0 0 (nI 1)) 142 0 (nI 0))) hW ?_
    refine And.intro ⟨rfl, trivial, Nat.le_refl _, Nat.le_refl _⟩ ?_
    exact h2 _ (Rel_ans hR (by decide))
  · skip
    obtain ⟨hq, w, u, ha0, ha1, hq0, hq1w, hw6, hu4, hwu, hgr⟩ := RL_q hq1
    obtain ⟨h158, hqz, hN, h3, ⟨T, hI⟩, hst, hla, hLQ, hSR⟩ := hq1
    have hq6 : mI m q 6 = nI n4r := hLQ.1.2.2.2.2.2.2.1.trans hn4
    have hq5 : mI m q 5 = nI n2r := hLQ.1.2.2.2.2.2.1.trans hn2
    have n10s : nv (mI m (a + 1) 10) = n10r := by rw [hn10, nv_nI (by omega)]
    have hhoA : ∀ v, v < n10r → iR (mI m (a + 11) v) 24 := fun v hv => (hI.2.2.2.2.2.2.1 v (by rw [← n10s] at hv; exact hv)).1
    have hsa : ∀ v, v < n10r → iR (lam m 20 3 v) n4r := fun v hv => by
      have w9 := hSR.2.2.2 v (by rw [← n10s] at hv; exact hv)
      rw [show lam m a 1 4 = nI n4r from hn4, nv_nI (by omega)] at w9
      exact w9
    have hn4p : 0 < n4r := by
      rcases Nat.eq_zero_or_pos n4r with z9 | z9
      · refine absurd (Or.inr (Or.inr ?_)) hla
        show mI m (a + 1) 4 = 0
        rw [hn4, z9]; rfl
      · exact z9
    have hq12 : mI m q 12 = nI n10r := hLQ.1.2.2.2.2.2.2.2.2.2.2.2.2.1.trans hn10
    refine ent (n := 62) z153 (by decide) rfl (by decide) (Nat.le_of_ble_eq_true rfl) (fun sc => ?_)
    refine And.intro (Wdo_0 hW) (Exists.intro _ (And.intro ha ?_))
    refine And.intro ⟨by omega, Nat.le_of_ble_eq_true rfl, Nat.le_refl _, Nat.le_refl _⟩ (And.intro (LWo_0 hL) ?_)
    refine C21 hL ?_
    refine And.intro (fun cz3 => ?_) (fun cz3 => False.elim (absurd (hst0) (bi_eq0.mp cz3)))
    refine And.intro (Wdo_0 hW) (Exists.intro _ (And.intro (Wdr_0_9 hW) ?_))
    refine And.intro (Wdo_0 hW) (Exists.intro _ (And.intro ha ?_))
    refine And.intro (Wdo_0 hW) (Exists.intro _ (And.intro (Wdr_0_4 hW) ?_))
    refine And.intro ⟨by omega, Nat.le_of_ble_eq_true rfl, Nat.le_refl _, Nat.le_refl _⟩ (And.intro (Wdo_136 hW) ?_)
    have hpp := (bput_self (m := m) (x := 136) (n := 3)).symm
    generalize (fun f => mI m (136 + f)) = DD at hpp
    rw [hpp]
    refine D113 (n := n4r) (nt := n2r) (nvl := n10r) (by omega) hW hL (Wd_S hW) (by omega) (by omega) hn2 (by omega) hn4 (by omega) hn10 (by omega) hhoA hI.2.2.2.1 (fun D1 f1 f2 flk => ?_)
    clear hpp
    refine And.intro (Wdo_0 hW) (Exists.intro _ (And.intro (Wdr_0_9 hW) ?_))
    refine And.intro ⟨by omega, Nat.le_of_ble_eq_true rfl, Nat.le_refl _, Nat.le_refl _⟩ (And.intro (Wdo_136 hW) ?_)
    refine D117 (R0 := D1 0) (R2 := D1 2) (nvl := n10r) (n := n4r) hW (by omega) (by omega) (by omega) hn4p f1 f2 (fun D2 => ?_) rfl rfl
    have po : ∀ r, ¬ (136 ≤ r ∧ r ≤ 138) → mI (bput m 136 3 D2) r = mI m r := fun r hr => by
      rcases Nat.lt_or_ge r 136 with z9 | z9
      · exact bput_lo (by omega)
      · exact bput_hi (by omega)
    have a22 : (bput m 136 3 D2).2.2 = m.2.2 := bput_22
    generalize bput m 136 3 D2 = m9 at po a22 ⊢
    have hW0 := hW
    have hW : Wd m9.2.2 := by rw [a22]; exact hW0
    have hak8 : ∀ r, 158 ≤ r → mI m9 r = mI m r := fun r hr => po r (by omega)
    have ln2 := LN_m ln2 a22 hak8
    have ln4 := LN_m ln4 a22 hak8
    have ln8 := LN_m ln8 a22 hak8
    have ln10 := LN_m ln10 a22 hak8
    have hq : va_rf (mR m9 142 3) = .ref q := by rw [show mR m9 = mR m from congrArg (fun w : WR => w.1) a22]; exact hq
    have hN : NW m9.2.2 q := by rw [a22]; exact hN
    refine And.intro ⟨by omega, Nat.le_of_ble_eq_true rfl, Nat.le_refl _, Nat.le_refl _⟩ (And.intro (Wdo_0 hW) ?_)
    refine C177 hW ?_
    refine And.intro ⟨rfl, trivial, Nat.le_refl _, Nat.le_refl _⟩ ?_
    refine h _ _ hW (fun Q2 h2 => ?_)
    refine ent (n := 170) z309 (by decide) rfl (by decide) (Nat.le_of_ble_eq_true rfl) (fun sc2 => ?_)
    refine And.intro (Wdo_142 hW) ?_
    refine And.intro (Wdo_142 hW) (Exists.intro _ (And.intro hq ?_))
    show Jj sc2 d 0 0 (mth 309) (pg P309 14).1 [some (.ref 142), some (.int (nI 1)), some (.int (nI 0)), none, none, none] [] (uI (uI m9 0 0 (nI 0)) 142 0 (nI 0)) 0 0 Q2
    have t22 : (uI (uI m9 0 0 (nI 0)) 142 0 (nI 0)).2.2 = m.2.2 := by rw [uI_22, uI_22]; exact a22
    have tI : ∀ r, ¬ (136 ≤ r ∧ r ≤ 138) → r ≠ 0 → r ≠ 142 → mI (uI (uI m9 0 0 (nI 0)) 142 0 (nI 0)) r = mI m r := fun r h1 h2 h3 => by rw [uI_ne h3, uI_ne h2, po r h1]
    have t0 : mI (uI (uI m9 0 0 (nI 0)) 142 0 (nI 0)) 0 0 = nI 0 := by rw [uI_ne (by decide), uI_eq, upd_e]
    have t0k : ∀ k, k ≠ 0 → mI (uI (uI m9 0 0 (nI 0)) 142 0 (nI 0)) 0 k = mI m 0 k := fun k hk => by rw [uI_ne (by decide), uI_eq, upd_o hk, po 0 (by decide)]
    have t142 : ∀ k, k ≠ 0 → mI (uI (uI m9 0 0 (nI 0)) 142 0 (nI 0)) 142 k = mI m 142 k := fun k hk => by rw [uI_eq, upd_o hk, uI_ne (by decide), po 142 (by decide)]
    generalize (uI (uI m9 0 0 (nI 0)) 142 0 (nI 0)) = m8 at t22 tI t0 t0k t142 ⊢
    have hW : Wd m8.2.2 := by rw [t22]; exact hW0
    have hN : NW m8.2.2 q := by rw [t22, ← a22]; exact hN
    have hq : va_rf (mR m8 142 3) = .ref q := by rw [show mR m8 = mR m9 from congrArg (fun w : WR => w.1) (t22.trans a22.symm)]; exact hq
    have hq6 : mI m8 q 6 = nI n4r := by rw [tI q (by omega) (by omega) (by omega)]; exact hq6
    have hq5 : mI m8 q 5 = nI n2r := by rw [tI q (by omega) (by omega) (by omega)]; exact hq5
    have hq12 : mI m8 q 12 = nI n10r := by rw [tI q (by omega) (by omega) (by omega)]; exact hq12
    have hho : ∀ v, v < n10r → iR (mI m8 (q + 18) v) 24 := fun v hv => by
      rw [tI (q + 18) (by omega) (by omega) (by omega)]
      rw [show mI m (q + 18) v = mI m (a + 11) v from hLQ.2.2.2.2.2.2.2.2.2.2.1.1 v (show v < nv (mI m (a + 1) 10) by rw [n10s]; exact hv)]
      exact hhoA v hv
    have hce : ∀ c, c < 24 → iR (mI m8 (q + 1) c) 5 := fun c hc => by
      rw [tI (q + 1) (by omega) (by omega) (by omega)]
      rw [show mI m (q + 1) c = mI m (a + 2) c from hLQ.2.2.1 c hc]
      exact hI.2.2.2.1 c hc
    have hwo := wo_q (m8 := m8) (nt := n2r) hLQ hX.2.1 hI hn4 (by omega) hn10 (by omega) (by omega) h158 (fun r h1 h2 => tI r (by omega) (by omega) h2)
    have hwo2 : ∀ k, k < n10r → ∀ g, g < n4r → D1 2 (k * 6 + g) = _ := fun k hk g hg => ((flk k hk).2 g hg).trans (hwo k hk g hg)
    have hwr : ∀ k, k < n10r → ∀ g, g < n4r → ∃ w, w ≤ 200 ∧ D1 2 (k * 6 + g) = nI w := fun k hk g hg => by
      rw [(flk k hk).2 g hg]
      exact wo_r (by omega)
    have hpp := (bput_self (m := m8) (x := 155) (n := 1)).symm
    generalize (fun f => mI m8 (155 + f)) = DD at hpp
    rw [hpp]
    have z9 := lrr_a (sc := sc2) (d := d) (m := m8) (Q := Q2) (q := q) (n := n4r) (nt := n2r) (nvl := n10r) (D := DD) (wo := D1 2) (by omega) hW hN h158 hq hq6 (by omega) hq5 (by omega) hq12 (by omega) hho hce hwo2 hwr hn4p (pw64 (by omega) (by omega)) (fun D2 => ?_) (n10r + 1) 0 (Nat.zero_le _) (by omega)
    · rw [Nat.pow_zero] at z9
      exact z9
    · clear hpp
      have s22 : (bput m8 155 1 D2).2.2 = m8.2.2 := bput_22
      have sI : ∀ r, r ≠ 155 → mI (bput m8 155 1 D2) r = mI m8 r := fun r hr => by
        rcases Nat.lt_or_ge r 155 with z9 | z9
        · exact bput_lo (by omega)
        · exact bput_hi (by omega)
      generalize bput m8 155 1 D2 = m7 at s22 sI ⊢
      have hW : Wd m7.2.2 := by rw [s22]; exact hW
      exact h2 _ (Rel_s7 hR (s22.trans t22) (fun r g1 g2 g3 => (sI r (fun z9 => g1 (by unfold scr; omega))).trans (tI r (fun z9 => g1 (by unfold scr; omega)) g2 g3)) (fun _ => (sI 140 (by decide)).trans (tI 140 (by decide) (by decide) (by decide))) (by rw [sI 0 (by decide)]; exact t0) (fun k hk => by rw [sI 0 (by decide)]; exact t0k k hk) (fun k hk => by rw [sI 142 (by decide)]; exact t142 k hk))
