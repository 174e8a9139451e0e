/-! ===== the reference's text ===== -/
def bt (x : Int32) : Prop := ∃ k, k < 128 ∧ (x = nI k ∨ x = -nI (k + 1))
theorem bt_p : ∀ k, k < 128 → nI k &&& nI 255 = nI k := by decide +kernel
theorem bt_n : ∀ k, k < 128 → -nI (k + 1) &&& nI 255 = nI (255 - k) ∧ -nI (k + 1) < 0 := by decide +kernel
theorem bt_r {x : Int32} {a b : Nat} (h : bt x) (ha : a < 128) (hb : b < 128) : (nI a ≤ x &&& nI 255 ∧ x &&& nI 255 ≤ nI b) ↔ (nI a ≤ x ∧ x ≤ nI b ∧ 0 ≤ x) := by
  obtain ⟨k, hk, rfl | rfl⟩ := h
  · rw [bt_p k hk]
    exact ⟨fun z => ⟨z.1, z.2, nI_pos' (by omega)⟩, fun z => ⟨z.1, z.2.1⟩⟩
  · rw [(bt_n k hk).1]
    constructor
    · intro z
      have z1 := z.2
      rw [nI_leI (by omega) (by omega)] at z1
      omega
    · intro z
      exact absurd z.2.2 (Int32.not_le.mpr (bt_n k hk).2)
theorem bt_b {x : Int32} {a b : Nat} (h : bt x) (ha : a < 128) (hb : b < 128) : (nI a ≤ x &&& nI 255 ∧ x &&& nI 255 ≤ nI b) ↔ (nI a ≤ x ∧ x ≤ nI b) := by
  rw [bt_r h ha hb]
  exact ⟨fun z => ⟨z.1, z.2.1⟩, fun z => ⟨z.1, z.2, Int32.le_trans (nI_pos' (by omega)) z.1⟩⟩
theorem bt_s {x : Int32} {a b : Nat} (h : bt x) (ha : a < 128) (h1 : nI a ≤ x) : x &&& nI 255 = x := by
  obtain ⟨k, hk, rfl | rfl⟩ := h
  · exact bt_p k hk
  · exact absurd (Int32.le_trans (nI_pos' (by omega)) h1) (Int32.not_le.mpr (bt_n k hk).2)
theorem bt_e {x : Int32} {a : Nat} (h : bt x) (ha : a < 128) : x &&& nI 255 = nI a ↔ x = nI a := by
  obtain ⟨k, hk, rfl | rfl⟩ := h
  · rw [bt_p k hk]
  · rw [(bt_n k hk).1]
    constructor
    · intro z
      rw [nI_eq (by omega) (by omega)] at z
      omega
    · intro z
      exact absurd (bt_n k hk).2 (by rw [z]; exact nI_pos (by omega))
theorem bt_m {x : Int32} (h : bt x) : ¬ x &&& nI 255 = -nI 1 := by
  obtain ⟨k, hk, rfl | rfl⟩ := h
  · rw [bt_p k hk]; exact nI_neg1 (by omega)
  · rw [(bt_n k hk).1]; exact nI_neg1 (by omega)
/-- the bytes of the text -/
def RBy (B : Nat → Int32) (n : Nat) (D : Nat → Nat → Int32) : Prop := D 0 7 = nI n ∧ n ≤ 1200 ∧ ∀ j, j < n → D 1 j = B j ∧ bt (B j)
def baF (B : Nat → Int32) (n k : Nat) : Int32 := if k < n then B k &&& nI 255 else -nI 1
theorem D207 {d : Nat} {m : Mm} {Q : Option Value → Mm → Prop} {q : Nat} {E : Nat → Nat → Int32} {L : Nat → Nat → Int64} (hW : Wd m.2.2) (hN : NW m.2.2 q) (hdq : q + 29 ≤ 142 ∨ 142 + 3 ≤ q) {D : Nat → Nat → Int32} {K : Nat → Nat → Int64} {B : Nat → Int32} {n k : Nat} (hR : RBy B n D) (hk : k < 2 ^ 31) (hQ : Q (some (.int (baF B n k))) (pp m 142 3 D K q 29 E L)) : Cc d 0 0 207 [.ref 142, .int (nI k)] (pp m 142 3 D K q 29 E L) Q := by
  refine ent (n := 46) z207 (by decide) rfl (by decide) (Nat.le_of_ble_eq_true rfl) (fun sc => ?_)
  have hn := hR.2.1
  refine And.intro (Wdo_142 hW) ?_
  rw [pp_10 (x := 142) (by decide)]
  rw [hR.1]
  refine And.intro (fun cz3 => ?_) (fun cz3 => ?_)
  · -- 3 taken: nI n ≤ nI k
    have kz3 : n ≤ k := kle (a := n) (b := k) rfl rfl (by omega) (by omega) cz3
    refine And.intro ⟨rfl, trivial, Nat.le_refl _, Nat.le_refl _⟩ ?_
    rw [show baF B n k = -nI 1 from if_neg (by omega)] at hQ
    exact hQ
  · -- 3 not: ¬ nI n ≤ nI k
    have kz3 : k < n := knle (a := n) (b := k) rfl rfl (by omega) (by omega) cz3
    refine And.intro (Wdo_142 hW) (Exists.intro _ (And.intro (Wdr_142_5 hW) ?_))
    refine And.intro (Wdi_143 hW (vi rfl (by omega))) ?_
    rw [nI_clamp (show k < 2 ^ 31 by omega)]
    rw [pp_1 (x := 142) (f := 1) (by decide)]
    refine And.intro ⟨rfl, trivial, Nat.le_refl _, Nat.le_refl _⟩ ?_
    rw [show baF B n k = D 1 k &&& nI 255 by unfold baF; rw [if_pos kz3, (hR.2.2 k kz3).1]] at hQ
    exact hQ
theorem C208 {d : Nat} {m : Mm} {Q : Option Value → Mm → Prop} {x : Int32} (hQ : Q (some (.int (bi (ltr x)))) m) : Cc d 0 0 208 [.int x] m Q := by
  refine ent (n := 40) z208 (by decide) rfl (by decide) (Nat.le_of_ble_eq_true rfl) (fun sc => ?_)
  refine And.intro (fun cz2 => ?_) (fun cz2 => ?_)
  · -- 2 taken: x < nI 97
    refine And.intro ⟨rfl, Or.inl rfl, Nat.le_refl _, Nat.le_refl _⟩ ?_
    rw [bi_f (fun z => absurd z.1 (Int32.not_le.mpr cz2))] at hQ; exact hQ
  · -- 2 not: ¬ x < nI 97
    refine And.intro (fun cz5 => ?_) (fun cz5 => ?_)
    · -- 5 taken: nI 122 < x
      refine And.intro ⟨rfl, Or.inl rfl, Nat.le_refl _, Nat.le_refl _⟩ ?_
      rw [bi_f (fun z => absurd z.2 (Int32.not_le.mpr cz5))] at hQ; exact hQ
    · -- 5 not: ¬ nI 122 < x
      refine And.intro ⟨rfl, Or.inr rfl, Nat.le_refl _, Nat.le_refl _⟩ ?_
      rw [bi_t ⟨Int32.not_lt.mp cz2, Int32.not_lt.mp cz5⟩] at hQ; exact hQ
theorem C209 {d : Nat} {m : Mm} {Q : Option Value → Mm → Prop} {x : Int32} (hQ : Q (some (.int (bi (dgt x)))) m) : Cc d 0 0 209 [.int x] m Q := by
  refine ent (n := 40) z209 (by decide) rfl (by decide) (Nat.le_of_ble_eq_true rfl) (fun sc => ?_)
  refine And.intro (fun cz2 => ?_) (fun cz2 => ?_)
  · -- 2 taken: x < nI 48
    refine And.intro ⟨rfl, Or.inl rfl, Nat.le_refl _, Nat.le_refl _⟩ ?_
    rw [bi_f (fun z => absurd z.1 (Int32.not_le.mpr cz2))] at hQ; exact hQ
  · -- 2 not: ¬ x < nI 48
    refine And.intro (fun cz5 => ?_) (fun cz5 => ?_)
    · -- 5 taken: nI 57 < x
      refine And.intro ⟨rfl, Or.inl rfl, Nat.le_refl _, Nat.le_refl _⟩ ?_
      rw [bi_f (fun z => absurd z.2 (Int32.not_le.mpr cz5))] at hQ; exact hQ
    · -- 5 not: ¬ nI 57 < x
      refine And.intro ⟨rfl, Or.inr rfl, Nat.le_refl _, Nat.le_refl _⟩ ?_
      rw [bi_t ⟨Int32.not_lt.mp cz2, Int32.not_lt.mp cz5⟩] at hQ; exact hQ
def sqF (k : Nat) : Nat := if k = 0 then 1 else if k = 1 then 0 else k
/-- the reference stands at the token behind place i -/
def TR (B : Nat → Int32) (n i : Nat) (D : Nat → Nat → Int32) (K : Nat → Nat → Int64) : Prop := D 0 10 = nI (plF B n i) ∧ D 0 9 = nI (sqF (kiF B n i)) ∧ (kiF B n i ≠ 1 → D 0 8 = nI (nxF B n i)) ∧ (kiF B n i = 2 → D 0 13 = nI (leT B n i) ∧ K 0 17 = coT B n i ∧ ∀ j, j < leT B n i → D 2 j = B (plF B n i + j)) ∧ (kiF B n i = 3 → D 0 12 = vaT B n i) ∧ (kiF B n i = 4 → D 0 11 = B (plF B n i))
/-- what reading leaves as it was -/
def FX (D D1 : Nat → Nat → Int32) : Prop := D1 1 = D 1 ∧ ∀ k, k < 8 ∨ 13 < k → D1 0 k = D 0 k
theorem RBy_x {B : Nat → Int32} {n : Nat} {D D1 : Nat → Nat → Int32} (h : RBy B n D) (hx : FX D D1) : RBy B n D1 := by
  refine ⟨(hx.2 7 (by omega)).trans h.1, h.2.1, fun j hj => ?_⟩
  rw [hx.1]
  exact h.2.2 j hj
theorem TR_mk {B : Nat → Int32} {n i p : Nat} {D : Nat → Nat → Int32} {K : Nat → Nat → Int64} (hp : plF B n i = p) (h10 : D 0 10 = nI p) (h9 : D 0 9 = nI (sqF (kiP B n p))) (h8 : kiP B n p ≠ 1 → D 0 8 = nI (nxP B n p)) (hw : kiP B n p = 2 → D 0 13 = nI (wlF B n p) ∧ K 0 17 = cdQ (nI 97) B p (wlF B n p) ∧ ∀ j, j < wlF B n p → D 2 j = B (p + j)) (hd : kiP B n p = 3 → D 0 12 = vaQ (nI 48) B p (dlF B n p)) (hs : kiP B n p = 4 → D 0 11 = B p) : TR B n i D K := by
  subst hp
  exact ⟨h10, h9, h8, hw, hd, hs⟩
theorem vaQ_t {f : Int32} {B : Nat → Int32} {p j : Nat} : nI 10 * vaQ f B p j + B (p + j) - f = vaQ f B p (j + 1) := by
  rw [vaQ_s, Int32.mul_comm, Int32.sub_eq_add_neg, Int32.sub_eq_add_neg, Int32.add_assoc]
theorem cdQ_t {f : Int32} {B : Nat → Int32} {p j : Nat} : lN 32 * cdQ f B p j + (B (p + j) - f + nI 1).toInt64 = cdQ f B p (j + 1) := by
  rw [cdQ_s, Int64.mul_comm]
theorem lq211a {sc : Nat × (Nat → Int32)} {d : Nat} {m : Mm} {Q : Option Value → Mm → Prop} {q : Nat} {E : Nat → Nat → Int32} {L : Nat → Nat → Int64} (hW : Wd m.2.2) (hN : NW m.2.2 q) (hdq : q + 29 ≤ 142 ∨ 142 + 3 ≤ q) {B : Nat → Int32} {n i : Nat} {D0 : Nat → Nat → Int32} {K0 : Nat → Nat → Int64} (hd : 1 ≤ d) (hR : RBy B n D0) (hi : i ≤ n) (hQ : ∀ D K, TR B n i D K → FX D0 D → Q none (pp m 142 3 D K q 29 E L)) {p : Nat} {cc : Int32} (hpl : plF B n i = p) (hpn : ¬ n ≤ p) (hlt : ltr (B p))  : ∀ (j x : Nat) (D : Nat → Nat → Int32) (K : Nat → Nat → Int64), x ≤ (n - p) → (n - p) + 1 ≤ x + j → (D 0 8 = nI (p + x) ∧ FX D0 D ∧ D 0 10 = nI p ∧ D 0 9 = nI 0 ∧ (∀ y, y < x → inb (nI 97) (nI 122) B n (p + y)) ∧ (x ≤ 8 → K 0 17 = cdQ (nI 97) B p x ∧ ∀ y, y < x → D 2 y = B (p + y))) → Jj sc d 0 0 (mth 211) (pg P211 48).1 [some (.ref 142), some (.int cc), some (.int (nI x))] [] (pp m 142 3 D K q 29 E L) 0 0 Q := by
  intro j
  induction j with
  | zero => intro x D K h1 h2 hall; omega
  | succ j ih =>
    intro x D K h1 h2 hall
    refine J_w z211 (i := 48) (by decide) 342 ?_
    obtain ⟨q8, hx, q10, q9, qi, qw⟩ := hall
    have hR2 : RBy B n D := RBy_x hR hx
    have hn := hR.2.1
    have hpx : p + x ≤ n := by
      rcases Nat.eq_zero_or_pos x with z | z
      · omega
      · have := (qi (x - 1) (by omega)).1; omega
    refine And.intro (Wdo_142 hW) ?_
    rw [pp_10 (x := 142) (by decide)]
    rw [q8]
    refine And.intro ⟨by omega, Nat.le_of_ble_eq_true rfl, Nat.le_refl _, Nat.le_refl _⟩ (And.intro (Wdo_142 hW) ?_)
    refine D207 (k := (p + x)) hW hN hdq hR2 (by omega) ?_
    refine And.intro ⟨by omega, Nat.le_of_ble_eq_true rfl, Nat.le_refl _, Nat.le_refl _⟩ ?_
    refine C208 (m := (pp m 142 3 D K q 29 E L)) ?_
    refine And.intro (fun cz53 => ?_) (fun cz53 => ?_)
    · -- 53 taken: bi (ltr (baF B n ((p + x)))) = 0
      refine And.intro (Wdo_142 hW) ?_
      rw [pp_u10 (x := 142) (by decide)]
      refine And.intro (fun cz94 => ?_) (fun cz94 => ?_)
      · -- 94 taken: nI 8 < nI x
        have kz94 : 8 < x := klt (a := 8) (b := x) rfl rfl (by omega) (by omega) cz94
        refine And.intro ⟨rfl, rfl, Nat.le_refl _, Nat.le_refl _⟩ ?_
        have ez9 := rn_u (f := nI 97) (l := nI 122) (B := B) (n := n) (p := p) (k := x) qi (fun z => bi_eq0.mp cz53 (by unfold baF; rw [if_pos z.1]; exact (bt_b (hR.2.2 _ z.1).2 (by decide) (by decide)).mpr z.2))
        change wlF B n p = x at ez9
        have kk := ki_w (B := B) (n := n) (p := p) hpn hlt
        rw [ez9] at kk
        rw [if_pos kz94] at kk
        refine hQ _ _ (TR_mk hpl q10 (by rw [kk.1]; exact q9) (fun z => absurd kk.1 z) (by rw [kk.1]; intro z; exact absurd z (by decide)) (by rw [kk.1]; intro z; exact absurd z (by decide)) (by rw [kk.1]; intro z; exact absurd z (by decide))) ⟨hx.1, fun k hk => ?_⟩
        · show upd (D 0) 13 _ k = D0 0 k
          rw [upd_o (by omega)]
          exact hx.2 k hk
      · -- 94 not: ¬ nI 8 < nI x
        have kz94 : x ≤ 8 := knlt (a := 8) (b := x) rfl rfl (by omega) (by omega) cz94
        refine And.intro (Wdo_142 hW) ?_
        rw [pp_u10 (x := 142) (by decide)]
        refine And.intro ⟨rfl, rfl, Nat.le_refl _, Nat.le_refl _⟩ ?_
        have ez9 := rn_u (f := nI 97) (l := nI 122) (B := B) (n := n) (p := p) (k := x) qi (fun z => bi_eq0.mp cz53 (by unfold baF; rw [if_pos z.1]; exact (bt_b (hR.2.2 _ z.1).2 (by decide) (by decide)).mpr z.2))
        change wlF B n p = x at ez9
        have kk := ki_w (B := B) (n := n) (p := p) hpn hlt
        rw [ez9] at kk
        rw [if_neg (by omega)] at kk
        refine hQ _ _ (TR_mk hpl q10 (by rw [kk.1]; rfl) (fun _ => by rw [kk.2]; exact q8) (fun _ => ⟨by rw [ez9]; rfl, by rw [ez9]; exact (qw kz94).1, by rw [ez9]; exact (qw kz94).2⟩) (by rw [kk.1]; intro z; exact absurd z (by decide)) (by rw [kk.1]; intro z; exact absurd z (by decide))) ⟨hx.1, fun k hk => ?_⟩
        · show upd (upd (D 0) 13 _) 9 _ k = D0 0 k
          rw [upd_o (by omega), upd_o (by omega)]
          exact hx.2 k hk
    · -- 53 not: ¬ bi (ltr (baF B n ((p + x)))) = 0
      refine And.intro (fun cz56 => ?_) (fun cz56 => ?_)
      · -- 56 taken: nI 8 ≤ nI x
        have kz56 : 8 ≤ x := kle (a := 8) (b := x) rfl rfl (by omega) (by omega) cz56
        refine And.intro rfl ?_
        refine And.intro (Wdo_142 hW) ?_
        rw [pp_10 (x := 142) (by decide)]
        rw [q8]
        refine And.intro (Wdo_142 hW) ?_
        rw [pp_u10 (x := 142) (by decide)]
        show Jj sc d 0 0 (mth 211) (pg P211 48).1 [some (.ref 142), some (.int cc), some (.int (nI x + nI 1))] [] (pp m 142 3 (ud D 0 8 ((nI ((p + x))) + nI 1)) K q 29 E L) 0 0 Q
        rw [show nI x + nI 1 = nI (x + 1) from by simp only [nI_add, pk_mul]]
        have hin : inb (nI 97) (nI 122) B n (p + x) := by
          have z := bi_ne0.mp cz53
          unfold baF at z
          by_cases hlt9 : p + x < n
          · rw [if_pos hlt9] at z; exact ⟨hlt9, (bt_b (hR.2.2 _ hlt9).2 (by decide) (by decide)).mp z⟩
          · rw [if_neg hlt9] at z; exact absurd z.1 (by decide)
        refine ih (x + 1) _ _ (by have := hin.1; omega) (by omega) ⟨?_, ⟨hx.1, fun k hk => ?_⟩, q10, q9, fun y hy => ?_, fun z => absurd z (by omega)⟩
        · show nI (p + x) + nI 1 = nI (p + (x + 1))
          rw [nI_add, Nat.add_assoc]
        · show upd (D 0) 8 _ k = D0 0 k
          rw [upd_o (by omega)]
          exact hx.2 k hk
        · by_cases ez9 : y = x
          · rw [ez9]; exact hin
          · exact qi y (by omega)
      · -- 56 not: ¬ nI 8 ≤ nI x
        have kz56 : x < 8 := knle (a := 8) (b := x) rfl rfl (by omega) (by omega) cz56
        refine And.intro (Wdo_142 hW) (Exists.intro _ (And.intro (Wdr_142_16 hW) ?_))
        refine And.intro (Wdo_142 hW) ?_
        rw [pp_10 (x := 142) (by decide)]
        rw [q8]
        refine And.intro ⟨by omega, Nat.le_of_ble_eq_true rfl, Nat.le_refl _, Nat.le_refl _⟩ (And.intro (Wdo_142 hW) ?_)
        refine D207 (k := (p + x)) hW hN hdq hR2 (by omega) ?_
        refine And.intro (Wdi_144 hW (vi rfl (by omega))) ?_
        rw [nI_clamp (show x < 2 ^ 31 by omega)]
        rw [pp_u1 (x := 142) (f := 2) (by decide)]
        refine And.intro (Wdo_142 hW) ?_
        rw [pp_J10 (x := 142) (by decide)]
        refine And.intro (Wdo_142 hW) (Exists.intro _ (And.intro (Wdr_142_16 hW) ?_))
        refine And.intro (Wdi_144 hW (vi rfl (by omega))) ?_
        rw [nI_clamp (show x < 2 ^ 31 by omega)]
        rw [pp_1 (x := 142) (f := 2) (by decide)]
        rw [show (ud D 2 x (baF B n ((p + x)))) 2 x = baF B n (p + x) from upd_e]
        refine And.intro (Wdo_142 hW) ?_
        rw [pp_v10 (x := 142) (by decide)]
        refine And.intro rfl ?_
        refine And.intro (Wdo_142 hW) ?_
        rw [pp_10 (x := 142) (by decide)]
        rw [ud_ne (D := D) (f := 2) (g := 0) (by decide)]
        rw [q8]
        refine And.intro (Wdo_142 hW) ?_
        rw [pp_u10 (x := 142) (by decide)]
        show Jj sc d 0 0 (mth 211) (pg P211 48).1 [some (.ref 142), some (.int cc), some (.int (nI x + nI 1))] [] (pp m 142 3 (ud (ud D 2 x (baF B n ((p + x)))) 0 8 ((nI ((p + x))) + nI 1)) (udJ K 0 17 (((lN 32) * (K 0 17)) + ((((baF B n (p + x)) - nI 97) + nI 1).toInt64))) q 29 E L) 0 0 Q
        rw [show nI x + nI 1 = nI (x + 1) from by simp only [nI_add, pk_mul]]
        have hin : inb (nI 97) (nI 122) B n (p + x) := by
          have z := bi_ne0.mp cz53
          unfold baF at z
          by_cases hlt9 : p + x < n
          · rw [if_pos hlt9] at z; exact ⟨hlt9, (bt_b (hR.2.2 _ hlt9).2 (by decide) (by decide)).mp z⟩
          · rw [if_neg hlt9] at z; exact absurd z.1 (by decide)
        have hby : baF B n (p + x) = B (p + x) := by unfold baF; rw [if_pos hin.1]; exact bt_s (b := 0) (hR.2.2 _ hin.1).2 (a := 97) (by decide) hin.2.1
        rw [hby]
        refine ih (x + 1) _ _ (by have := hin.1; omega) (by omega) ⟨?_, ⟨hx.1, fun k hk => ?_⟩, q10, q9, fun y hy => ?_, fun z => ⟨?_, fun y hy => ?_⟩⟩
        · show nI (p + x) + nI 1 = nI (p + (x + 1))
          rw [nI_add, Nat.add_assoc]
        · show upd (D 0) 8 _ k = D0 0 k
          rw [upd_o (by omega)]
          exact hx.2 k hk
        · by_cases ez9 : y = x
          · rw [ez9]; exact hin
          · exact qi y (by omega)
        · show lN 32 * K 0 17 + (B (p + x) - nI 97 + nI 1).toInt64 = _
          rw [(qw (by omega)).1, cdQ_t]
        · show upd (D 2) x (B (p + x)) y = _
          by_cases ez9 : y = x
          · rw [ez9, upd_e]
          · rw [upd_o ez9]; exact (qw (by omega)).2 y (by omega)
theorem lq211b {sc : Nat × (Nat → Int32)} {d : Nat} {m : Mm} {Q : Option Value → Mm → Prop} {q : Nat} {E : Nat → Nat → Int32} {L : Nat → Nat → Int64} (hW : Wd m.2.2) (hN : NW m.2.2 q) (hdq : q + 29 ≤ 142 ∨ 142 + 3 ≤ q) {B : Nat → Int32} {n i : Nat} {D0 : Nat → Nat → Int32} {K0 : Nat → Nat → Int64} (hd : 1 ≤ d) (hR : RBy B n D0) (hi : i ≤ n) (hQ : ∀ D K, TR B n i D K → FX D0 D → Q none (pp m 142 3 D K q 29 E L)) {p : Nat} {cc : Int32} (hpl : plF B n i = p) (hpn : ¬ n ≤ p) (hnl : ¬ ltr (B p)) (hdt : dgt (B p))  : ∀ (j x : Nat) (D : Nat → Nat → Int32) (K : Nat → Nat → Int64), x ≤ (n - p) → (n - p) + 1 ≤ x + j → (D 0 8 = nI (p + x) ∧ FX D0 D ∧ D 0 10 = nI p ∧ D 0 9 = nI 0 ∧ (∀ y, y < x → inb (nI 48) (nI 57) B n (p + y)) ∧ (x ≤ 3 → D 0 12 = vaQ (nI 48) B p x)) → Jj sc d 0 0 (mth 211) (pg P211 105).1 [some (.ref 142), some (.int cc), some (.int (nI x))] [] (pp m 142 3 D K q 29 E L) 0 0 Q := by
  intro j
  induction j with
  | zero => intro x D K h1 h2 hall; omega
  | succ j ih =>
    intro x D K h1 h2 hall
    refine J_w z211 (i := 105) (by decide) 342 ?_
    obtain ⟨q8, hx, q10, q9, qi, qw⟩ := hall
    have hR2 : RBy B n D := RBy_x hR hx
    have hn := hR.2.1
    have hpx : p + x ≤ n := by
      rcases Nat.eq_zero_or_pos x with z | z
      · omega
      · have := (qi (x - 1) (by omega)).1; omega
    refine And.intro (Wdo_142 hW) ?_
    rw [pp_10 (x := 142) (by decide)]
    rw [q8]
    refine And.intro ⟨by omega, Nat.le_of_ble_eq_true rfl, Nat.le_refl _, Nat.le_refl _⟩ (And.intro (Wdo_142 hW) ?_)
    refine D207 (k := (p + x)) hW hN hdq hR2 (by omega) ?_
    refine And.intro ⟨by omega, Nat.le_of_ble_eq_true rfl, Nat.le_refl _, Nat.le_refl _⟩ ?_
    refine C209 (m := (pp m 142 3 D K q 29 E L)) ?_
    refine And.intro (fun cz110 => ?_) (fun cz110 => ?_)
    · -- 110 taken: bi (dgt (baF B n ((p + x)))) = 0
      refine And.intro (fun cz137 => ?_) (fun cz137 => ?_)
      · -- 137 taken: nI 3 < nI x
        have kz137 : 3 < x := klt (a := 3) (b := x) rfl rfl (by omega) (by omega) cz137
        refine And.intro ⟨rfl, rfl, Nat.le_refl _, Nat.le_refl _⟩ ?_
        have ez9 := rn_u (f := nI 48) (l := nI 57) (B := B) (n := n) (p := p) (k := x) qi (fun z => bi_eq0.mp cz110 (by unfold baF; rw [if_pos z.1]; exact (bt_b (hR.2.2 _ z.1).2 (by decide) (by decide)).mpr z.2))
        change dlF B n p = x at ez9
        have kk := ki_d (B := B) (n := n) (p := p) hpn hnl hdt
        rw [ez9] at kk
        rw [if_pos kz137] at kk
        exact hQ _ _ (TR_mk hpl q10 (by rw [kk.1]; exact q9) (fun z => absurd kk.1 z) (by rw [kk.1]; intro z; exact absurd z (by decide)) (by rw [kk.1]; intro z; exact absurd z (by decide)) (by rw [kk.1]; intro z; exact absurd z (by decide))) hx
      · -- 137 not: ¬ nI 3 < nI x
        have kz137 : x ≤ 3 := knlt (a := 3) (b := x) rfl rfl (by omega) (by omega) cz137
        refine And.intro (Wdo_142 hW) ?_
        rw [pp_u10 (x := 142) (by decide)]
        refine And.intro ⟨rfl, rfl, Nat.le_refl _, Nat.le_refl _⟩ ?_
        have ez9 := rn_u (f := nI 48) (l := nI 57) (B := B) (n := n) (p := p) (k := x) qi (fun z => bi_eq0.mp cz110 (by unfold baF; rw [if_pos z.1]; exact (bt_b (hR.2.2 _ z.1).2 (by decide) (by decide)).mpr z.2))
        change dlF B n p = x at ez9
        have kk := ki_d (B := B) (n := n) (p := p) hpn hnl hdt
        rw [ez9] at kk
        rw [if_neg (by omega)] at kk
        refine hQ _ _ (TR_mk hpl q10 (by rw [kk.1]; rfl) (fun _ => by rw [kk.2]; exact q8) (by rw [kk.1]; intro z; exact absurd z (by decide)) (fun _ => by rw [ez9]; exact qw kz137) (by rw [kk.1]; intro z; exact absurd z (by decide))) ⟨hx.1, fun k hk => ?_⟩
        · show upd (D 0) 9 _ k = D0 0 k
          rw [upd_o (by omega)]
          exact hx.2 k hk
    · -- 110 not: ¬ bi (dgt (baF B n ((p + x)))) = 0
      refine And.intro (fun cz113 => ?_) (fun cz113 => ?_)
      · -- 113 taken: nI 3 ≤ nI x
        have kz113 : 3 ≤ x := kle (a := 3) (b := x) rfl rfl (by omega) (by omega) cz113
        refine And.intro rfl ?_
        refine And.intro (Wdo_142 hW) ?_
        rw [pp_10 (x := 142) (by decide)]
        rw [q8]
        refine And.intro (Wdo_142 hW) ?_
        rw [pp_u10 (x := 142) (by decide)]
        show Jj sc d 0 0 (mth 211) (pg P211 105).1 [some (.ref 142), some (.int cc), some (.int (nI x + nI 1))] [] (pp m 142 3 (ud D 0 8 ((nI ((p + x))) + nI 1)) K q 29 E L) 0 0 Q
        rw [show nI x + nI 1 = nI (x + 1) from by simp only [nI_add, pk_mul]]
        have hin : inb (nI 48) (nI 57) B n (p + x) := by
          have z := bi_ne0.mp cz110
          unfold baF at z
          by_cases hlt9 : p + x < n
          · rw [if_pos hlt9] at z; exact ⟨hlt9, (bt_b (hR.2.2 _ hlt9).2 (by decide) (by decide)).mp z⟩
          · rw [if_neg hlt9] at z; exact absurd z.1 (by decide)
        refine ih (x + 1) _ _ (by have := hin.1; omega) (by omega) ⟨?_, ⟨hx.1, fun k hk => ?_⟩, q10, q9, fun y hy => ?_, fun z => absurd z (by omega)⟩
        · show nI (p + x) + nI 1 = nI (p + (x + 1))
          rw [nI_add, Nat.add_assoc]
        · show upd (D 0) 8 _ k = D0 0 k
          rw [upd_o (by omega)]
          exact hx.2 k hk
        · by_cases ez9 : y = x
          · rw [ez9]; exact hin
          · exact qi y (by omega)
      · -- 113 not: ¬ nI 3 ≤ nI x
        have kz113 : x < 3 := knle (a := 3) (b := x) rfl rfl (by omega) (by omega) cz113
        refine And.intro (Wdo_142 hW) ?_
        rw [pp_10 (x := 142) (by decide)]
        refine And.intro (Wdo_142 hW) ?_
        rw [pp_10 (x := 142) (by decide)]
        rw [q8]
        refine And.intro ⟨by omega, Nat.le_of_ble_eq_true rfl, Nat.le_refl _, Nat.le_refl _⟩ (And.intro (Wdo_142 hW) ?_)
        refine D207 (k := (p + x)) hW hN hdq hR2 (by omega) ?_
        refine And.intro (Wdo_142 hW) ?_
        rw [pp_u10 (x := 142) (by decide)]
        refine And.intro rfl ?_
        refine And.intro (Wdo_142 hW) ?_
        rw [pp_10 (x := 142) (by decide)]
        rw [show (ud D 0 12 (((nI 10 * (D 0 12)) + (baF B n ((p + x)))) - nI 48)) 0 8 = D 0 8 from rfl]
        rw [q8]
        refine And.intro (Wdo_142 hW) ?_
        rw [pp_u10 (x := 142) (by decide)]
        show Jj sc d 0 0 (mth 211) (pg P211 105).1 [some (.ref 142), some (.int cc), some (.int (nI x + nI 1))] [] (pp m 142 3 (ud (ud D 0 12 (((nI 10 * (D 0 12)) + (baF B n ((p + x)))) - nI 48)) 0 8 ((nI ((p + x))) + nI 1)) K q 29 E L) 0 0 Q
        rw [show nI x + nI 1 = nI (x + 1) from by simp only [nI_add, pk_mul]]
        have hin : inb (nI 48) (nI 57) B n (p + x) := by
          have z := bi_ne0.mp cz110
          unfold baF at z
          by_cases hlt9 : p + x < n
          · rw [if_pos hlt9] at z; exact ⟨hlt9, (bt_b (hR.2.2 _ hlt9).2 (by decide) (by decide)).mp z⟩
          · rw [if_neg hlt9] at z; exact absurd z.1 (by decide)
        have hby : baF B n (p + x) = B (p + x) := by unfold baF; rw [if_pos hin.1]; exact bt_s (b := 0) (hR.2.2 _ hin.1).2 (a := 48) (by decide) hin.2.1
        rw [hby]
        refine ih (x + 1) _ _ (by have := hin.1; omega) (by omega) ⟨?_, ⟨hx.1, fun k hk => ?_⟩, q10, q9, fun y hy => ?_, fun z => ?_⟩
        · show nI (p + x) + nI 1 = nI (p + (x + 1))
          rw [nI_add, Nat.add_assoc]
        · show upd (upd (D 0) 12 _) 8 _ k = D0 0 k
          rw [upd_o (by omega), upd_o (by omega)]
          exact hx.2 k hk
        · by_cases ez9 : y = x
          · rw [ez9]; exact hin
          · exact qi y (by omega)
        · show nI 10 * D 0 12 + B (p + x) - nI 48 = _
          rw [qw (by omega), vaQ_t]
theorem lq211c {sc : Nat × (Nat → Int32)} {d : Nat} {m : Mm} {Q : Option Value → Mm → Prop} {q : Nat} {E : Nat → Nat → Int32} {L : Nat → Nat → Int64} (hW : Wd m.2.2) (hN : NW m.2.2 q) (hdq : q + 29 ≤ 142 ∨ 142 + 3 ≤ q) {B : Nat → Int32} {n i : Nat} {D0 : Nat → Nat → Int32} {K0 : Nat → Nat → Int64} (hd : 1 ≤ d) (hR : RBy B n D0) (hi : i ≤ n) (hQ : ∀ D K, TR B n i D K → FX D0 D → Q none (pp m 142 3 D K q 29 E L))  : ∀ (j x : Nat) (D : Nat → Nat → Int32), x ≤ (n - i) → (n - i) + 1 ≤ x + j → (D 0 8 = nI (i + x) ∧ FX D0 D ∧ ¬ D 0 9 = nI 5 ∧ (∀ y, y < x → inb (nI 32) (nI 32) B n (i + y))) → Jj sc d 0 0 (mth 211) (pg P211 5).1 [some (.ref 142), none, none] [] (pp m 142 3 D K0 q 29 E L) 0 0 Q := by
  intro j
  induction j with
  | zero => intro x D h1 h2 hall; omega
  | succ j ih =>
    intro x D h1 h2 hall
    refine J_w z211 (i := 5) (by decide) 342 ?_
    obtain ⟨q8, hx, q9, qi⟩ := hall
    have hR2 : RBy B n D := RBy_x hR hx
    have hn := hR.2.1
    have hpx : i + x ≤ n := by
      rcases Nat.eq_zero_or_pos x with z | z
      · omega
      · have := (qi (x - 1) (by omega)).1; omega
    refine And.intro (Wdo_142 hW) ?_
    rw [pp_10 (x := 142) (by decide)]
    rw [q8]
    refine And.intro ⟨by omega, Nat.le_of_ble_eq_true rfl, Nat.le_refl _, Nat.le_refl _⟩ (And.intro (Wdo_142 hW) ?_)
    refine D207 (k := (i + x)) hW hN hdq hR2 (by omega) ?_
    refine And.intro (fun cz10 => ?_) (fun cz10 => ?_)
    · -- 10 taken: ¬ baF B n ((i + x)) = nI 32
      refine And.intro (Wdo_142 hW) ?_
      rw [pp_10 (x := 142) (by decide)]
      rw [q8]
      refine And.intro (Wdo_142 hW) ?_
      rw [pp_u10 (x := 142) (by decide)]
      refine And.intro (Wdo_142 hW) ?_
      rw [pp_u10 (x := 142) (by decide)]
      refine And.intro (Wdo_142 hW) ?_
      rw [pp_u10 (x := 142) (by decide)]
      refine And.intro (Wdo_142 hW) ?_
      rw [pp_10 (x := 142) (by decide)]
      rw [show (ud (ud (ud D 0 10 (nI ((i + x)))) 0 9 (nI 0)) 0 11 (nI 0)) 0 8 = (ud (ud D 0 10 (nI ((i + x)))) 0 9 (nI 0)) 0 8 from rfl]
      rw [show (ud (ud D 0 10 (nI ((i + x)))) 0 9 (nI 0)) 0 8 = (ud D 0 10 (nI ((i + x)))) 0 8 from rfl]
      rw [show (ud D 0 10 (nI ((i + x)))) 0 8 = D 0 8 from rfl]
      rw [q8]
      refine And.intro ⟨by omega, Nat.le_of_ble_eq_true rfl, Nat.le_refl _, Nat.le_refl _⟩ (And.intro (Wdo_142 hW) ?_)
      refine D207 (k := (i + x)) hW hN hdq hR2 (by omega) ?_
      refine And.intro (fun cz37 => ?_) (fun cz37 => ?_)
      · -- 37 taken: ¬ baF B n ((i + x)) = -nI 1
        refine And.intro ⟨by omega, Nat.le_of_ble_eq_true rfl, Nat.le_refl _, Nat.le_refl _⟩ ?_
        refine C208 (m := (pp m 142 3 (ud (ud (ud D 0 10 (nI ((i + x)))) 0 9 (nI 0)) 0 11 (nI 0)) K0 q 29 E L)) ?_
        refine And.intro (fun cz44 => ?_) (fun cz44 => ?_)
        · -- 44 taken: bi (ltr (baF B n ((i + x)))) = 0
          refine And.intro ⟨by omega, Nat.le_of_ble_eq_true rfl, Nat.le_refl _, Nat.le_refl _⟩ ?_
          refine C209 (m := (pp m 142 3 (ud (ud (ud D 0 10 (nI ((i + x)))) 0 9 (nI 0)) 0 11 (nI 0)) K0 q 29 E L)) ?_
          refine And.intro (fun cz101 => ?_) (fun cz101 => ?_)
          · -- 101 taken: bi (dgt (baF B n ((i + x)))) = 0
            refine And.intro (fun cz144 => ?_) (fun cz144 => ?_)
            · -- 144 taken: baF B n ((i + x)) = nI 59
              refine And.intro (Wdo_142 hW) ?_
              rw [pp_u10 (x := 142) (by decide)]
              refine And.intro (Wdo_142 hW) ?_
              rw [pp_u10 (x := 142) (by decide)]
              refine And.intro rfl ?_
              refine And.intro (Wdo_142 hW) ?_
              rw [pp_10 (x := 142) (by decide)]
              rw [show (ud (ud (ud (ud (ud D 0 10 (nI ((i + x)))) 0 9 (nI 0)) 0 11 (nI 0)) 0 9 (nI 4)) 0 11 (baF B n ((i + x)))) 0 8 = (ud (ud (ud (ud D 0 10 (nI ((i + x)))) 0 9 (nI 0)) 0 11 (nI 0)) 0 9 (nI 4)) 0 8 from rfl]
              rw [show (ud (ud (ud (ud D 0 10 (nI ((i + x)))) 0 9 (nI 0)) 0 11 (nI 0)) 0 9 (nI 4)) 0 8 = (ud (ud (ud D 0 10 (nI ((i + x)))) 0 9 (nI 0)) 0 11 (nI 0)) 0 8 from rfl]
              rw [show (ud (ud (ud D 0 10 (nI ((i + x)))) 0 9 (nI 0)) 0 11 (nI 0)) 0 8 = (ud (ud D 0 10 (nI ((i + x)))) 0 9 (nI 0)) 0 8 from rfl]
              rw [show (ud (ud D 0 10 (nI ((i + x)))) 0 9 (nI 0)) 0 8 = (ud D 0 10 (nI ((i + x)))) 0 8 from rfl]
              rw [show (ud D 0 10 (nI ((i + x)))) 0 8 = D 0 8 from rfl]
              rw [q8]
              refine And.intro (Wdo_142 hW) ?_
              rw [pp_u10 (x := 142) (by decide)]
              refine And.intro ⟨rfl, rfl, Nat.le_refl _, Nat.le_refl _⟩ ?_
              have epl : plF B n i = i + x := by
                show i + rn (nI 32) (nI 32) B n i = i + x
                rw [rn_u (k := x) qi (fun z => cz10 (by unfold baF; rw [if_pos z.1, bt_e (hR.2.2 _ z.1).2 (by decide)]; exact Int32.le_antisymm z.2.2 z.2.1))]
              have hltn : i + x < n := by
                rcases Nat.lt_or_ge (i + x) n with z | z
                · exact z
                · exact absurd (show baF B n (i + x) = -nI 1 from if_neg (by omega)) cz37
              have hba : baF B n (i + x) = B (i + x) &&& nI 255 := if_pos hltn
              have hnl : ¬ ltr (B (i + x)) := fun z => bi_eq0.mp cz44 (by rw [hba]; exact (bt_b (hR.2.2 _ hltn).2 (by decide) (by decide)).mpr z)
              have hnd : ¬ dgt (B (i + x)) := fun z => bi_eq0.mp cz101 (by rw [hba]; exact (bt_b (hR.2.2 _ hltn).2 (by decide) (by decide)).mpr z)
              have kk := ki_s (B := B) (n := n) (p := i + x) (by omega) hnl hnd
              have hsg : B (i + x) = nI 59 := (bt_e (hR.2.2 _ hltn).2 (by decide)).mp (by rw [← hba]; exact cz144)
              rw [if_pos (Or.inl hsg)] at kk
              refine hQ _ _ (TR_mk epl rfl (by rw [kk.1]; rfl) (fun _ => by rw [kk.2]; exact nI_add (i + x) 1) (by rw [kk.1]; intro z; exact absurd z (by decide)) (by rw [kk.1]; intro z; exact absurd z (by decide)) (fun _ => cz144.trans hsg.symm)) ⟨hx.1, fun k hk => ?_⟩
              · show upd (upd (upd (upd (upd (upd (D 0) 10 _) 9 _) 11 _) 9 _) 11 _) 8 _ k = D0 0 k
                rw [upd_o (by omega), upd_o (by omega), upd_o (by omega), upd_o (by omega), upd_o (by omega), upd_o (by omega)]
                exact hx.2 k hk
            · -- 144 not: ¬ baF B n ((i + x)) = nI 59
              refine And.intro (fun cz147 => ?_) (fun cz147 => ?_)
              · -- 147 taken: ¬ baF B n ((i + x)) = nI 44
                refine And.intro ⟨rfl, rfl, Nat.le_refl _, Nat.le_refl _⟩ ?_
                have epl : plF B n i = i + x := by
                  show i + rn (nI 32) (nI 32) B n i = i + x
                  rw [rn_u (k := x) qi (fun z => cz10 (by unfold baF; rw [if_pos z.1, bt_e (hR.2.2 _ z.1).2 (by decide)]; exact Int32.le_antisymm z.2.2 z.2.1))]
                have hltn : i + x < n := by
                  rcases Nat.lt_or_ge (i + x) n with z | z
                  · exact z
                  · exact absurd (show baF B n (i + x) = -nI 1 from if_neg (by omega)) cz37
                have hba : baF B n (i + x) = B (i + x) &&& nI 255 := if_pos hltn
                have hnl : ¬ ltr (B (i + x)) := fun z => bi_eq0.mp cz44 (by rw [hba]; exact (bt_b (hR.2.2 _ hltn).2 (by decide) (by decide)).mpr z)
                have hnd : ¬ dgt (B (i + x)) := fun z => bi_eq0.mp cz101 (by rw [hba]; exact (bt_b (hR.2.2 _ hltn).2 (by decide) (by decide)).mpr z)
                have kk := ki_s (B := B) (n := n) (p := i + x) (by omega) hnl hnd
                rw [if_neg (fun z => z.elim (fun y => cz144 (by rw [hba]; exact (bt_e (hR.2.2 _ hltn).2 (by decide)).mpr y)) (fun y => cz147 (by rw [hba]; exact (bt_e (hR.2.2 _ hltn).2 (by decide)).mpr y)))] at kk
                refine hQ _ _ (TR_mk epl rfl (by rw [kk.1]; rfl) (fun z => absurd kk.1 z) (by rw [kk.1]; intro z; exact absurd z (by decide)) (by rw [kk.1]; intro z; exact absurd z (by decide)) (by rw [kk.1]; intro z; exact absurd z (by decide))) ⟨hx.1, fun k hk => ?_⟩
                · show upd (upd (upd (D 0) 10 _) 9 _) 11 _ k = D0 0 k
                  rw [upd_o (by omega), upd_o (by omega), upd_o (by omega)]
                  exact hx.2 k hk
              · -- 147 not: baF B n ((i + x)) = nI 44
                refine And.intro (Wdo_142 hW) ?_
                rw [pp_u10 (x := 142) (by decide)]
                refine And.intro (Wdo_142 hW) ?_
                rw [pp_u10 (x := 142) (by decide)]
                refine And.intro rfl ?_
                refine And.intro (Wdo_142 hW) ?_
                rw [pp_10 (x := 142) (by decide)]
                rw [show (ud (ud (ud (ud (ud D 0 10 (nI ((i + x)))) 0 9 (nI 0)) 0 11 (nI 0)) 0 9 (nI 4)) 0 11 (baF B n ((i + x)))) 0 8 = (ud (ud (ud (ud D 0 10 (nI ((i + x)))) 0 9 (nI 0)) 0 11 (nI 0)) 0 9 (nI 4)) 0 8 from rfl]
                rw [show (ud (ud (ud (ud D 0 10 (nI ((i + x)))) 0 9 (nI 0)) 0 11 (nI 0)) 0 9 (nI 4)) 0 8 = (ud (ud (ud D 0 10 (nI ((i + x)))) 0 9 (nI 0)) 0 11 (nI 0)) 0 8 from rfl]
                rw [show (ud (ud (ud D 0 10 (nI ((i + x)))) 0 9 (nI 0)) 0 11 (nI 0)) 0 8 = (ud (ud D 0 10 (nI ((i + x)))) 0 9 (nI 0)) 0 8 from rfl]
                rw [show (ud (ud D 0 10 (nI ((i + x)))) 0 9 (nI 0)) 0 8 = (ud D 0 10 (nI ((i + x)))) 0 8 from rfl]
                rw [show (ud D 0 10 (nI ((i + x)))) 0 8 = D 0 8 from rfl]
                rw [q8]
                refine And.intro (Wdo_142 hW) ?_
                rw [pp_u10 (x := 142) (by decide)]
                refine And.intro ⟨rfl, rfl, Nat.le_refl _, Nat.le_refl _⟩ ?_
                have epl : plF B n i = i + x := by
                  show i + rn (nI 32) (nI 32) B n i = i + x
                  rw [rn_u (k := x) qi (fun z => cz10 (by unfold baF; rw [if_pos z.1, bt_e (hR.2.2 _ z.1).2 (by decide)]; exact Int32.le_antisymm z.2.2 z.2.1))]
                have hltn : i + x < n := by
                  rcases Nat.lt_or_ge (i + x) n with z | z
                  · exact z
                  · exact absurd (show baF B n (i + x) = -nI 1 from if_neg (by omega)) cz37
                have hba : baF B n (i + x) = B (i + x) &&& nI 255 := if_pos hltn
                have hnl : ¬ ltr (B (i + x)) := fun z => bi_eq0.mp cz44 (by rw [hba]; exact (bt_b (hR.2.2 _ hltn).2 (by decide) (by decide)).mpr z)
                have hnd : ¬ dgt (B (i + x)) := fun z => bi_eq0.mp cz101 (by rw [hba]; exact (bt_b (hR.2.2 _ hltn).2 (by decide) (by decide)).mpr z)
                have kk := ki_s (B := B) (n := n) (p := i + x) (by omega) hnl hnd
                have hsg : B (i + x) = nI 44 := (bt_e (hR.2.2 _ hltn).2 (by decide)).mp (by rw [← hba]; exact cz147)
                rw [if_pos (Or.inr hsg)] at kk
                refine hQ _ _ (TR_mk epl rfl (by rw [kk.1]; rfl) (fun _ => by rw [kk.2]; exact nI_add (i + x) 1) (by rw [kk.1]; intro z; exact absurd z (by decide)) (by rw [kk.1]; intro z; exact absurd z (by decide)) (fun _ => cz147.trans hsg.symm)) ⟨hx.1, fun k hk => ?_⟩
                · show upd (upd (upd (upd (upd (upd (D 0) 10 _) 9 _) 11 _) 9 _) 11 _) 8 _ k = D0 0 k
                  rw [upd_o (by omega), upd_o (by omega), upd_o (by omega), upd_o (by omega), upd_o (by omega), upd_o (by omega)]
                  exact hx.2 k hk
          · -- 101 not: ¬ bi (dgt (baF B n ((i + x)))) = 0
            refine And.intro (Wdo_142 hW) ?_
            rw [pp_u10 (x := 142) (by decide)]
            show Jj sc d 0 0 (mth 211) (pg P211 105).1 [some (.ref 142), some (.int (baF B n ((i + x)))), some (.int (nI 0))] [] (pp m 142 3 (ud (ud (ud (ud D 0 10 (nI ((i + x)))) 0 9 (nI 0)) 0 11 (nI 0)) 0 12 (nI 0)) K0 q 29 E L) 0 0 Q
            have epl : plF B n i = i + x := by
              show i + rn (nI 32) (nI 32) B n i = i + x
              rw [rn_u (k := x) qi (fun z => cz10 (by unfold baF; rw [if_pos z.1, bt_e (hR.2.2 _ z.1).2 (by decide)]; exact Int32.le_antisymm z.2.2 z.2.1))]
            have hltn : i + x < n := by
              rcases Nat.lt_or_ge (i + x) n with z | z
              · exact z
              · exact absurd (show baF B n (i + x) = -nI 1 from if_neg (by omega)) cz37
            have hba : baF B n (i + x) = B (i + x) &&& nI 255 := if_pos hltn
            have hnl : ¬ ltr (B (i + x)) := fun z => bi_eq0.mp cz44 (by rw [hba]; exact (bt_b (hR.2.2 _ hltn).2 (by decide) (by decide)).mpr z)
            have hdt : dgt (B (i + x)) := (bt_b (hR.2.2 _ hltn).2 (by decide) (by decide)).mp (by rw [← hba]; exact bi_ne0.mp cz101)
            refine lq211b (K0 := K0) hW hN hdq hd hR hi hQ epl (by omega) hnl hdt (n - (i + x) + 1) 0 _ _ (Nat.zero_le _) (by omega) ⟨q8, ⟨hx.1, fun k hk => ?_⟩, rfl, rfl, fun y h => absurd h (by omega), fun _ => rfl⟩
            show upd (upd (upd (upd (D 0) 10 _) 9 _) 11 _) 12 _ k = D0 0 k
            rw [upd_o (by omega), upd_o (by omega), upd_o (by omega), upd_o (by omega)]
            exact hx.2 k hk
        · -- 44 not: ¬ bi (ltr (baF B n ((i + x)))) = 0
          refine And.intro (Wdo_142 hW) ?_
          rw [pp_v10 (x := 142) (by decide)]
          show Jj sc d 0 0 (mth 211) (pg P211 48).1 [some (.ref 142), some (.int (baF B n ((i + x)))), some (.int (nI 0))] [] (pp m 142 3 (ud (ud (ud D 0 10 (nI ((i + x)))) 0 9 (nI 0)) 0 11 (nI 0)) (udJ K0 0 17 (lN 0)) q 29 E L) 0 0 Q
          have epl : plF B n i = i + x := by
            show i + rn (nI 32) (nI 32) B n i = i + x
            rw [rn_u (k := x) qi (fun z => cz10 (by unfold baF; rw [if_pos z.1, bt_e (hR.2.2 _ z.1).2 (by decide)]; exact Int32.le_antisymm z.2.2 z.2.1))]
          have hltn : i + x < n := by
            rcases Nat.lt_or_ge (i + x) n with z | z
            · exact z
            · exact absurd (show baF B n (i + x) = -nI 1 from if_neg (by omega)) cz37
          have hba : baF B n (i + x) = B (i + x) &&& nI 255 := if_pos hltn
          have hlt : ltr (B (i + x)) := (bt_b (hR.2.2 _ hltn).2 (by decide) (by decide)).mp (by rw [← hba]; exact bi_ne0.mp cz44)
          refine lq211a (K0 := K0) hW hN hdq hd hR hi hQ epl (by omega) hlt (n - (i + x) + 1) 0 _ _ (Nat.zero_le _) (by omega) ⟨q8, ⟨hx.1, fun k hk => ?_⟩, rfl, rfl, fun y h => absurd h (by omega), fun _ => ⟨rfl, fun y h => absurd h (by omega)⟩⟩
          show upd (upd (upd (D 0) 10 _) 9 _) 11 _ k = D0 0 k
          rw [upd_o (by omega), upd_o (by omega), upd_o (by omega)]
          exact hx.2 k hk
      · -- 37 not: baF B n ((i + x)) = -nI 1
        refine And.intro (Wdo_142 hW) ?_
        rw [pp_u10 (x := 142) (by decide)]
        refine And.intro ⟨rfl, rfl, Nat.le_refl _, Nat.le_refl _⟩ ?_
        have epl : plF B n i = i + x := by
          show i + rn (nI 32) (nI 32) B n i = i + x
          rw [rn_u (k := x) qi (fun z => cz10 (by unfold baF; rw [if_pos z.1, bt_e (hR.2.2 _ z.1).2 (by decide)]; exact Int32.le_antisymm z.2.2 z.2.1))]
        have hge : n ≤ i + x := by
          rcases Nat.lt_or_ge (i + x) n with z | z
          · exact absurd cz37 (by unfold baF; rw [if_pos z]; exact bt_m (hR.2.2 _ z).2)
          · exact z
        have kk := ki_e (B := B) (n := n) (p := i + x) hge
        refine hQ _ _ (TR_mk epl rfl (by rw [kk.1]; rfl) (fun _ => by rw [kk.2]; exact q8) (by rw [kk.1]; intro z; exact absurd z (by decide)) (by rw [kk.1]; intro z; exact absurd z (by decide)) (by rw [kk.1]; intro z; exact absurd z (by decide))) ⟨hx.1, fun k hk => ?_⟩
        · show upd (upd (upd (upd (D 0) 10 _) 9 _) 11 _) 9 _ k = D0 0 k
          rw [upd_o (by omega), upd_o (by omega), upd_o (by omega), upd_o (by omega)]
          exact hx.2 k hk
    · -- 10 not: baF B n ((i + x)) = nI 32
      refine And.intro rfl ?_
      refine And.intro (Wdo_142 hW) ?_
      rw [pp_10 (x := 142) (by decide)]
      rw [q8]
      refine And.intro (Wdo_142 hW) ?_
      rw [pp_u10 (x := 142) (by decide)]
      show Jj sc d 0 0 (mth 211) (pg P211 5).1 [some (.ref 142), none, none] [] (pp m 142 3 (ud D 0 8 ((nI ((i + x))) + nI 1)) K0 q 29 E L) 0 0 Q
      have hin : inb (nI 32) (nI 32) B n (i + x) := by
        have z := cz10
        unfold baF at z
        by_cases hlt9 : i + x < n
        · rw [if_pos hlt9, bt_e (hR.2.2 _ hlt9).2 (by decide)] at z; rw [show inb (nI 32) (nI 32) B n (i + x) ↔ (i + x < n ∧ nI 32 ≤ B (i + x) ∧ B (i + x) ≤ nI 32) from Iff.rfl, z]; exact ⟨hlt9, Int32.le_refl _, Int32.le_refl _⟩
        · rw [if_neg hlt9] at z; exact absurd z (by decide)
      refine ih (x + 1) _ (by have := hin.1; omega) (by omega) ⟨?_, ⟨hx.1, fun k hk => ?_⟩, q9, fun y hy => ?_⟩
      · show nI (i + x) + nI 1 = nI (i + (x + 1))
        rw [nI_add, Nat.add_assoc]
      · show upd (D 0) 8 _ k = D0 0 k
        rw [upd_o (by omega)]
        exact hx.2 k hk
      · by_cases ez9 : y = x
        · rw [ez9]; exact hin
        · exact qi y (by omega)
theorem D211 {d : Nat} {m : Mm} {Q : Option Value → Mm → Prop} {q : Nat} {E : Nat → Nat → Int32} {L : Nat → Nat → Int64} (hW : Wd m.2.2) (hN : NW m.2.2 q) (hdq : q + 29 ≤ 142 ∨ 142 + 3 ≤ q) {B : Nat → Int32} {n i : Nat} {D0 : Nat → Nat → Int32} {K0 : Nat → Nat → Int64} (hd : 1 ≤ d) (hR : RBy B n D0) (hi : i ≤ n) (hQ : ∀ D K, TR B n i D K → FX D0 D → Q none (pp m 142 3 D K q 29 E L)) (h8 : D0 0 8 = nI i) (h9 : ¬ D0 0 9 = nI 5) : Cc d 0 0 211 [.ref 142] (pp m 142 3 D0 K0 q 29 E L) Q := by
  refine ent (n := 342) z211 (by decide) rfl (by decide) (Nat.le_of_ble_eq_true rfl) (fun sc => ?_)
  refine And.intro (Wdo_142 hW) ?_
  rw [pp_10 (x := 142) (by decide)]
  refine And.intro (fun cz3 => ?_) (fun cz3 => ?_)
  · -- 3 taken: ¬ D0 0 9 = nI 5
    show Jj sc d 0 0 (mth 211) (pg P211 5).1 [some (.ref 142), none, none] [] (pp m 142 3 D0 K0 q 29 E L) 0 0 Q
    exact lq211c hW hN hdq hd hR hi hQ (n - i + 1) 0 D0 (Nat.zero_le _) (by omega) ⟨h8, ⟨rfl, fun k _ => rfl⟩, h9, fun y h => absurd h (by omega)⟩
  · -- 3 not: D0 0 9 = nI 5
    refine And.intro ⟨rfl, rfl, Nat.le_refl _, Nat.le_refl _⟩ ?_
    exact absurd cz3 h9
theorem O211 {d : Nat} {m : Mm} {Q : Option Value → Mm → Prop} {q : Nat} {E : Nat → Nat → Int32} {L : Nat → Nat → Int64} (hW : Wd m.2.2) (hN : NW m.2.2 q) (hdq : q + 29 ≤ 142 ∨ 142 + 3 ≤ q) {D : Nat → Nat → Int32} {K : Nat → Nat → Int64} (h9 : D 0 9 = nI 5) (hQ : Q none (pp m 142 3 D K q 29 E L)) : Cc d 0 0 211 [.ref 142] (pp m 142 3 D K q 29 E L) Q := by
  refine ent (n := 342) z211 (by decide) rfl (by decide) (Nat.le_of_ble_eq_true rfl) (fun sc => ?_)
  refine And.intro (Wdo_142 hW) ?_
  rw [pp_10 (x := 142) (by decide)]
  refine And.intro (fun cz3 => ?_) (fun cz3 => ?_)
  · -- 3 taken: ¬ D 0 9 = nI 5
    exact absurd h9 cz3
  · -- 3 not: D 0 9 = nI 5
    refine And.intro ⟨rfl, rfl, Nat.le_refl _, Nat.le_refl _⟩ ?_
    exact hQ
theorem D212 {d : Nat} {m : Mm} {Q : Option Value → Mm → Prop} {q : Nat} {E : Nat → Nat → Int32} {L : Nat → Nat → Int64} (hW : Wd m.2.2) (hN : NW m.2.2 q) (hdq : q + 29 ≤ 142 ∨ 142 + 3 ≤ q) {D : Nat → Nat → Int32} {K : Nat → Nat → Int64} {f : Int32} (hO : D 0 9 = nI 5 → Q none (pp m 142 3 D K q 29 E L)) (hQ : ¬ D 0 9 = nI 5 → Q none (pp m 142 3 (ud (ud (ud D 0 14 f) 0 15 (D 0 10)) 0 9 (nI 5)) K q 29 E L)) : Cc d 0 0 212 [.ref 142, .int f] (pp m 142 3 D K q 29 E L) Q := by
  refine ent (n := 52) z212 (by decide) rfl (by decide) (Nat.le_of_ble_eq_true rfl) (fun sc => ?_)
  refine And.intro (Wdo_142 hW) ?_
  rw [pp_10 (x := 142) (by decide)]
  refine And.intro (fun cz3 => ?_) (fun cz3 => ?_)
  · -- 3 taken: ¬ D 0 9 = nI 5
    refine And.intro (Wdo_142 hW) ?_
    rw [pp_u10 (x := 142) (by decide)]
    refine And.intro (Wdo_142 hW) ?_
    rw [pp_10 (x := 142) (by decide)]
    rw [show (ud D 0 14 f) 0 10 = D 0 10 from rfl]
    refine And.intro (Wdo_142 hW) ?_
    rw [pp_u10 (x := 142) (by decide)]
    refine And.intro (Wdo_142 hW) ?_
    rw [pp_u10 (x := 142) (by decide)]
    refine And.intro ⟨rfl, rfl, Nat.le_refl _, Nat.le_refl _⟩ ?_
    exact hQ cz3
  · -- 3 not: D 0 9 = nI 5
    refine And.intro ⟨rfl, rfl, Nat.le_refl _, Nat.le_refl _⟩ ?_
    exact hO cz3
