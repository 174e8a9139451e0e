theorem RX_5 {B : Nat → Int32} {n : Nat} {X : Rs Nat} {D : Nat → Nat → Int32} {K : Nat → Nat → Int64} (h : RX B n X D K) (h9 : D 0 9 = nI 5) : ∃ e, X = .inl e := by
  cases X with
  | inl e => exact ⟨e, rfl⟩
  | inr i => exact absurd h9 (sq_5 h.2.1.2.1)
theorem RX_n {B : Nat → Int32} {n : Nat} {X : Rs Nat} {D : Nat → Nat → Int32} {K : Nat → Nat → Int64} (h : RX B n X D K) (h9 : ¬ D 0 9 = nI 5) : ∃ i, X = .inr i := by
  cases X with
  | inl e => exact absurd h.2.1 h9
  | inr i => exact ⟨i, rfl⟩
theorem X211 {d : Nat} {m : Mm} {Q : Option Value → Mm → Prop} {q : Nat} {E : Nat → Nat → Int32} {L : Nat → Nat → Int64} (hW : Wd m.2.2) (hN : NW m.2.2 q) (hdq : q + 29 ≤ 142 ∨ 142 + 3 ≤ q) {D : Nat → Nat → Int32} {K : Nat → Nat → Int64} {B : Nat → Int32} {n : Nat} {X : Rs Nat} (hX : RX B n X D K) (hk : ∀ i, X = .inr i → ¬ kiF B n i = 1) (hd : 2 ≤ d) (hQ : ∀ D1 K1, RX B n (rb X (fun i => .inr (nxF B n i))) D1 K1 → FY D D1 → Q none (pp m 142 3 D1 K1 q 29 E L)) : Cc d 0 0 211 [.ref 142] (pp m 142 3 D K q 29 E L) Q := by
  cases X with
  | inl e => exact O211 hW hN hdq hX.2.1 (hQ D K hX FY_r)
  | inr i => exact D211 hW hN hdq (by omega) hX.1 (nxF_le hX.2.2.1) (fun D1 K1 uT uX => hQ D1 K1 (RX_l hX.1 uX uT (nxF_le hX.2.2.1) hX.2.2.2) (FY_x uX)) (hX.2.1.2.2.1 (hk i rfl)) (sq_5 hX.2.1.2.1)
theorem X212 {d : Nat} {m : Mm} {Q : Option Value → Mm → Prop} {q : Nat} {E : Nat → Nat → Int32} {L : Nat → Nat → Int64} (hW : Wd m.2.2) (hN : NW m.2.2 q) (hdq : q + 29 ≤ 142 ∨ 142 + 3 ≤ q) {D : Nat → Nat → Int32} {K : Nat → Nat → Int64} {B : Nat → Int32} {n : Nat} {X : Rs Nat} (hX : RX B n X D K) {f : Nat} (hQ : ∀ D1, RX B n (rb X (fun i => .inl (f, plF B n i))) D1 K → FY D D1 → Q none (pp m 142 3 D1 K q 29 E L)) : Cc d 0 0 212 [.ref 142, .int (nI f)] (pp m 142 3 D K q 29 E L) Q := by
  cases X with
  | inl e => exact D212 hW hN hdq (fun _ => hQ D hX FY_r) (fun z => absurd hX.2.1 z)
  | inr i => exact D212 hW hN hdq (fun z => absurd z (sq_5 hX.2.1.2.1)) (fun _ => hQ _ (RX_f hX.1 hX.2.1) FY_f)
def wqX (B : Nat → Int32) (n : Nat) (X : Rs Nat) (w : Int64) : Prop := ∃ i, X = .inr i ∧ kiF B n i = 2 ∧ coT B n i = w
theorem X213 {d : Nat} {m : Mm} {Q : Option Value → Mm → Prop} {q : Nat} {E : Nat → Nat → Int32} {L : Nat → Nat → Int64} (hW : Wd m.2.2) (hN : NW m.2.2 q) (hdq : q + 29 ≤ 142 ∨ 142 + 3 ≤ q) {D : Nat → Nat → Int32} {K : Nat → Nat → Int64} {B : Nat → Int32} {n : Nat} {X : Rs Nat} (hX : RX B n X D K) {s0 : Nat} {w : Int64} (hs : s0 < sS.length) (hl : (sBy s0).length < 2 ^ 31) (hc : woC (sBy s0) (sBy s0).length = w) (hd : 5 ≤ d) (hQ : Q (some (.int (bi (wqX B n X w)))) (pp m 142 3 D K q 29 E L)) : Cc d 0 0 213 [.ref 142, .ref (1000000 + s0)] (pp m 142 3 D K q 29 E L) Q := by
  cases X with
  | inl e =>
    refine O213 hW hN hdq hX.2.1 ?_
    rw [bi_f (fun ⟨i, h, _⟩ => by cases h)] at hQ
    exact hQ
  | inr i =>
    refine D213 hW hN hdq hs hl hc hX.1 hX.2.1 hX.2.2.1 hX.2.2.2 hd ?_
    rw [bi_c (q := kiF B n i = 2 ∧ coT B n i = w) ⟨fun ⟨j, h, z⟩ => by cases h; exact z, fun z => ⟨i, rfl, z⟩⟩] at hQ
    exact hQ
theorem tUse_2 {T : NT} {so n i j : Nat} {B : Nat → Int32} {x : Int32} (h : tUse T so B n i = .inr (x, j)) : kiF B n i = 2 ∧ j = nxF B n i := by
  unfold tUse pUse at h
  split at h
  · rename_i h1
    split at h
    · cases h
      exact ⟨h1.1, rfl⟩
    · cases h
  · cases h
theorem X224 {d : Nat} {m : Mm} {Q : Option Value → Mm → Prop} {q : Nat} {E : Nat → Nat → Int32} {L : Nat → Nat → Int64} (hW : Wd m.2.2) (hN : NW m.2.2 q) (hdq : q + 29 ≤ 142 ∨ 142 + 3 ≤ q) {D : Nat → Nat → Int32} {K : Nat → Nat → Int64} {so : Nat} (hso : so = 2 ∨ so = 4 ∨ so = 8 ∨ so = 10) (hq4 : va_rf (mR m 142 4) = .ref q) {T : NT} (hNR : NR T E L) {B : Nat → Int32} {n : Nat} {X : Rs Nat} (hX : RX B n X D K) (hd : 9 ≤ d) (hQ : ∀ D1 K1 (v : Int32), RX B n (rb X (fun i => rb (tUse T so B n i) fun a => .inr a.2)) D1 K1 → FY D D1 → (∀ i9 a j, X = .inr i9 → tUse T so B n i9 = .inr (a, j) → v = a) → Q (some (.int v)) (pp m 142 3 D1 K1 q 29 E L)) : Cc d 0 0 224 [.ref 142, .int (nI (rsn so))] (pp m 142 3 D K q 29 E L) Q := by
  refine ent (n := 40) z224 (by decide) rfl (by decide) (Nat.le_of_ble_eq_true rfl) (fun sc => ?_)
  refine And.intro ⟨by omega, Nat.le_of_ble_eq_true rfl, Nat.le_refl _, Nat.le_refl _⟩ (And.intro (Wdo_142 hW) ?_)
  refine X223 hW hN hdq hso hq4 hNR hX (by omega) (fun D1 K1 v hX1 hy1 hv => ?_)
  refine And.intro ⟨by omega, Nat.le_of_ble_eq_true rfl, Nat.le_refl _, Nat.le_refl _⟩ (And.intro (Wdo_142 hW) ?_)
  refine X211 hW hN hdq hX1 (fun i e => ?_) (by omega) (fun D2 K2 hX2 hy2 => ?_)
  · obtain ⟨i1, -, h⟩ := rb_r e
    obtain ⟨⟨a, j⟩, h1, h2⟩ := rb_r h
    have ez3 : i1 = i := Sum.inr.inj h2
    rw [← ez3, (tUse_2 h1).1]
    decide
  · refine And.intro ⟨rfl, trivial, Nat.le_refl _, Nat.le_refl _⟩ ?_
    refine hQ D2 K2 v ?_ (FY_t hy1 hy2) hv
    rw [show rb X (fun i => rb (tUse T so B n i) fun a => (.inr a.2 : Rs Nat)) = rb (rb X (fun i => rb (tUse T so B n i) fun _ => (.inr i : Rs Nat))) (fun i => .inr (nxF B n i)) from ?_]
    · exact hX2
    · cases X with
      | inl e => rfl
      | inr i =>
        show rb (tUse T so B n i) _ = rb (rb (tUse T so B n i) _) _
        cases h : tUse T so B n i with
        | inl e => rfl
        | inr a => show Sum.inr a.2 = Sum.inr (nxF B n i); rw [(tUse_2 (x := a.1) (j := a.2) h).2]
theorem X225 {d : Nat} {m : Mm} {Q : Option Value → Mm → Prop} {q : Nat} {E : Nat → Nat → Int32} {L : Nat → Nat → Int64} (hW : Wd m.2.2) (hN : NW m.2.2 q) (hdq : q + 29 ≤ 142 ∨ 142 + 3 ≤ q) {D : Nat → Nat → Int32} {K : Nat → Nat → Int64} {so : Nat} {f : Int32} (hso : so = 2 ∨ so = 4 ∨ so = 8 ∨ so = 10) (hq4 : va_rf (mR m 142 4) = .ref q) {T : NT} (hNR : NR T E L) {B : Nat → Int32} {n : Nat} {X : Rs Nat} (hX : RX B n X D K) (hd : 9 ≤ d) (hQ : ∀ D1 K1 (v : Int32), RX B n (rb X (fun i => rb (tUse T so B n i) fun a => if a.1 = f then .inl (3, plF B n i) else .inr i)) D1 K1 → FY D D1 → (∀ i9 a j, X = .inr i9 → tUse T so B n i9 = .inr (a, j) → v = a) → Q (some (.int v)) (pp m 142 3 D1 K1 q 29 E L)) : Cc d 0 0 225 [.ref 142, .int (nI (rsn so)), .int f] (pp m 142 3 D K q 29 E L) Q := by
  refine ent (n := 60) z225 (by decide) rfl (by decide) (Nat.le_of_ble_eq_true rfl) (fun sc => ?_)
  refine And.intro ⟨by omega, Nat.le_of_ble_eq_true rfl, Nat.le_refl _, Nat.le_refl _⟩ (And.intro (Wdo_142 hW) ?_)
  refine X223 hW hN hdq hso hq4 hNR hX (by omega) (fun D1 K1 v hX1 hy1 hv => ?_)
  refine And.intro (Wdo_142 hW) ?_
  rw [pp_10 (x := 142) (by decide)]
  refine And.intro (fun cz7 => ?_) (fun cz7 => ?_)
  · refine And.intro ⟨rfl, trivial, Nat.le_refl _, Nat.le_refl _⟩ ?_
    refine hQ D1 K1 v ?_ hy1 hv
    obtain ⟨e, ee⟩ := RX_5 hX1 cz7
    rw [ee] at hX1
    rw [show rb X (fun i => rb (tUse T so B n i) fun a => if a.1 = f then .inl (3, plF B n i) else .inr i) = .inl e from ?_]
    · exact hX1
    · cases X with
      | inl ez2 => exact ee
      | inr i =>
        change rb (tUse T so B n i) _ = _ at ee
        show rb (tUse T so B n i) _ = _
        cases h : tUse T so B n i with
        | inl ez2 => rw [h] at ee; exact ee
        | inr a => rw [h] at ee; cases ee
  · obtain ⟨i1, ez1⟩ := RX_n hX1 cz7
    obtain ⟨i, ez2, h⟩ := rb_r ez1
    obtain ⟨⟨a, j⟩, h1, h2⟩ := rb_r h
    have hva := hv i a j ez2 h1
    have ez3 : i1 = i := (Sum.inr.inj h2).symm
    rw [ez3] at ez1
    subst ez2
    refine And.intro (fun cz10 => ?_) (fun cz10 => ?_)
    · refine And.intro ⟨rfl, trivial, Nat.le_refl _, Nat.le_refl _⟩ ?_
      refine hQ D1 K1 v ?_ hy1 hv
      rw [ez1] at hX1
      show RX B n (rb (tUse T so B n i) _) D1 K1
      rw [h1]
      show RX B n (if a = f then _ else _) D1 K1
      rw [if_neg (fun z => cz10 (hva.trans z))]
      exact hX1
    · refine And.intro ⟨by omega, Nat.le_of_ble_eq_true rfl, Nat.le_refl _, Nat.le_refl _⟩ (And.intro (Wdo_142 hW) ?_)
      refine X212 hW hN hdq hX1 (fun D2 hX2 hy2 => ?_)
      refine And.intro ⟨rfl, trivial, Nat.le_refl _, Nat.le_refl _⟩ ?_
      refine hQ D2 K1 v ?_ (FY_t hy1 hy2) hv
      rw [ez1] at hX2
      show RX B n (rb (tUse T so B n i) _) D2 K1
      rw [h1]
      show RX B n (if a = f then _ else _) D2 K1
      rw [if_pos (hva.symm.trans cz10)]
      exact hX2
theorem X226 {d : Nat} {m : Mm} {Q : Option Value → Mm → Prop} {q : Nat} {E : Nat → Nat → Int32} {L : Nat → Nat → Int64} (hW : Wd m.2.2) (hN : NW m.2.2 q) (hdq : q + 29 ≤ 142 ∨ 142 + 3 ≤ q) {D : Nat → Nat → Int32} {K : Nat → Nat → Int64} {Λ : Nat → Nat → Int32} (h00 : E 0 0 = Λ 0 0) (h01 : E 0 1 = Λ 0 1) (hq4 : va_rf (mR m 142 4) = .ref q) {B : Nat → Int32} {n : Nat} {X : Rs Nat} (hX : RX B n X D K) (hd : 9 ≤ d) (hQ : ∀ D1 K1 (v : Int32), RX B n (rb X (fun i => rb (pCell Λ B n i) fun a => .inr a.2)) D1 K1 → FY D D1 → (∀ i9 a j, X = .inr i9 → pCell Λ B n i9 = .inr (a, j) → v = a) → Q (some (.int v)) (pp m 142 3 D1 K1 q 29 E L)) : Cc d 0 0 226 [.ref 142] (pp m 142 3 D K q 29 E L) Q := by
  refine ent (n := 90) z226 (by decide) rfl (by decide) (Nat.le_of_ble_eq_true rfl) (fun sc => ?_)
  refine And.intro ⟨by omega, Nat.le_of_ble_eq_true rfl, Nat.le_refl _, Nat.le_refl _⟩ (And.intro (Wdo_142 hW) ?_)
  refine X215 (s0 := 49) hW hN hdq (by decide) (by decide) wo_49 hX (by omega) (fun D1 K1 hX1 hy1 => ?_)
  refine And.intro (Wdo_142 hW) (Exists.intro _ (And.intro hq4 ?_))
  refine And.intro (NWo_0 hN) ?_
  rw [pp_20 (y := q) (by omega) (by decide), h00]
  refine And.intro ⟨by omega, Nat.le_of_ble_eq_true rfl, Nat.le_refl _, Nat.le_refl _⟩ (And.intro (Wdo_142 hW) ?_)
  refine X217 hW hN hdq hX1 (by omega) (fun D2 K2 v2 hX2 hy2 hv2 => ?_)
  refine And.intro ⟨by omega, Nat.le_of_ble_eq_true rfl, Nat.le_refl _, Nat.le_refl _⟩ (And.intro (Wdo_142 hW) ?_)
  refine X216 hW hN hdq hX2 (by omega) (fun D3 K3 hX3 hy3 => ?_)
  refine And.intro (Wdo_142 hW) (Exists.intro _ (And.intro hq4 ?_))
  refine And.intro (NWo_0 hN) ?_
  rw [pp_20 (y := q) (by omega) (by decide), h01]
  refine And.intro ⟨by omega, Nat.le_of_ble_eq_true rfl, Nat.le_refl _, Nat.le_refl _⟩ (And.intro (Wdo_142 hW) ?_)
  refine X217 hW hN hdq hX3 (by omega) (fun D4 K4 v4 hX4 hy4 hv4 => ?_)
  refine And.intro (Wdo_142 hW) (Exists.intro _ (And.intro hq4 ?_))
  refine And.intro (NWo_0 hN) ?_
  rw [pp_20 (y := q) (by omega) (by decide), h00]
  refine And.intro ⟨rfl, trivial, Nat.le_refl _, Nat.le_refl _⟩ ?_
  refine hQ D4 K4 _ ?_ (FY_t hy1 (FY_t hy2 (FY_t hy3 hy4))) ?_
  · rw [rb_a, rb_a, rb_a] at hX4
    rw [show (fun i => rb (pCell Λ B n i) fun a => (.inr a.2 : Rs Nat)) = _ from funext fun i => ?_]
    · exact hX4
    · unfold pCell
      rw [rb_a]
      congr 1
      funext i
      rw [rb_a, rb_a]
      congr 1
      funext x
      rw [rb_a]
      show rb (pSign (nI 44) B n x.2) _ = rb (pSign (nI 44) B n x.2) _
      congr 1
      funext i
      rw [rb_a]
      rfl
  · intro i9 a j e h
    unfold pCell at h
    obtain ⟨i1, ez1, h⟩ := rb_r h
    obtain ⟨⟨x, i2⟩, ez2, h⟩ := rb_r h
    obtain ⟨i3, ez3, h⟩ := rb_r h
    obtain ⟨⟨y, i4⟩, ez4, h⟩ := rb_r h
    cases h
    have q1 : rb X (fun i => pWord (lN 52) B n i) = .inr i1 := by rw [e]; exact ez1
    have q2 := hv2 i1 x i2 q1 ez2
    have q3 := hv4 i3 y i4 (by rw [q1]; show rb (rb (pWhole _ _ B n i1) _) _ = _; rw [ez2]; exact ez3) ez4
    rw [q2, q3]
