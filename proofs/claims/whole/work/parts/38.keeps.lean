def lnF (s : Nat) (T : NT) (E : Nat → Nat → Int32) (B : Nat → Int32) (n i : Nat) : Rs LSt := if s = 0 then landL T E B n i else if s = 1 then rowL T E B n i else if s = 2 then rb (tTell T 2 E B n i) (fun t => .inr (t.1, E, t.2)) else if s = 3 then luckL T E B n i else if s = 4 then godL T E B n i else if s = 5 then holdsL T E B n i else if s = 6 then sendsL T E B n i else if s = 7 then barsL T E B n i else if s = 8 then prayerL T E B n i else if s = 9 then clashL T E B n i else if s = 10 then villL T E B n i else if s = 11 then spellL T E B n i else sawL T E B n i
def rmN (s : Nat) : Nat := [1, 4, 6, 1, 6, 16, 12, 6, 8, 8, 4, 6, 8].getD s 0
theorem rmN_r : ∀ s, s < 13 → roomL.getD s 0 = nI (rmN s) ∧ rmN s ≤ 16 := by decide +kernel
def CI (E : Nat → Nat → Int32) : Prop := ∀ s, s < 13 → E 1 s = nI (nv (E 1 s)) ∧ nv (E 1 s) ≤ rmN s
def WI (E : Nat → Nat → Int32) : Prop := E 0 0 = nI (nv (E 0 0)) ∧ nv (E 0 0) ≤ 6 ∧ E 0 1 = nI (nv (E 0 1)) ∧ nv (E 0 1) ≤ 4 ∧ nv (E 1 1) ≤ nv (E 0 1)
def NN (T : NT) (E : Nat → Nat → Int32) : Prop := T.1 = nv (E 1 2) + nv (E 1 4) + nv (E 1 8) + nv (E 1 10) ∧ TS T 2 (nv (E 1 2)) ∧ TS T 4 (nv (E 1 4)) ∧ TS T 8 (nv (E 1 8))
def V1 (E : Nat → Nat → Int32) : Prop := ∀ c, c < 24 → iR (E 2 c) 5
def V2 (E : Nat → Nat → Int32) : Prop := ∀ g, g < nv (E 1 4) → iR (E 3 g) 4 ∧ iR (E 4 g) 10 ∧ iR (E 5 g) 24 ∧ iR (E 6 g) 25 ∧ iR (E 16 g) 100
def V3 (E : Nat → Nat → Int32) : Prop := ∀ p, p < nv (E 1 8) → iR (E 9 (p * 7 + 0)) (nv (E 1 2)) ∧ iR (E 9 (p * 7 + 1)) 24 ∧ iR (E 9 (p * 7 + 2)) 24 ∧ iR (E 9 (p * 7 + 3)) (nv (E 1 4)) ∧ iR (E 9 (p * 7 + 4)) 24 ∧ iR (E 9 (p * 7 + 5)) 100 ∧ iR (E 9 (p * 7 + 6)) 100
def V4 (E : Nat → Nat → Int32) : Prop := ∀ v, v < nv (E 1 10) → iR (E 11 v) 24 ∧ iR (E 18 v) (nv (E 1 4))
def V5 (E : Nat → Nat → Int32) : Prop := ∀ s, s < nv (E 1 11) → iR (E 12 s) 4 ∧ iR (E 13 s) 10 ∧ nI 1 ≤ E 13 s
def V6 (E : Nat → Nat → Int32) : Prop := ∀ s, s < nv (E 1 12) → iR (E 14 (s * 4)) (nv (E 1 2)) ∧ iR (E 14 (s * 4 + 1)) 5 ∧ iR (E 14 (s * 4 + 2)) 24 ∧ iR (E 14 (s * 4 + 3)) 2
def V7 (E : Nat → Nat → Int32) : Prop := ∀ x, x < 36 → E 17 x = -nI 2 ∨ iR (E 17 x) (nv (E 1 4))
def V8 (E : Nat → Nat → Int32) : Prop := (nv (E 1 0) = 0 → nv (E 0 0) = 0 ∧ nv (E 0 1) = 0) ∧ (0 < nv (E 1 0) → 2 ≤ nv (E 0 0) ∧ 1 ≤ nv (E 0 1)) ∧ iR (E 0 2) 3 ∧ iR (E 0 3) 100 ∧ E 15 0 = nI 0 ∧ E 15 1 = nI 0
def VI (E : Nat → Nat → Int32) : Prop := V1 E ∧ V2 E ∧ V3 E ∧ V4 E ∧ V5 E ∧ V6 E ∧ V7 E ∧ V8 E
def LRI (T : NT) (E : Nat → Nat → Int32) : Prop := CI E ∧ WI E ∧ NN T E ∧ VI E
def bump (E : Nat → Nat → Int32) (s : Nat) : Nat → Nat → Int32 := ud E 1 s (E 1 s + nI 1)
theorem rb_r {α β : Type} {x : Rs α} {f : α → Rs β} {y : β} (h : rb x f = .inr y) : ∃ a, x = .inr a ∧ f a = .inr y := by
  cases x with
  | inl e => cases h
  | inr a => exact ⟨a, rfl, h⟩
theorem iR_of {x : Int32} {a b : Nat} (ha : a < 2 ^ 31) (hb : b < 2 ^ 31) (h1 : nI a ≤ x) (h2 : x ≤ nI b) : iR x (b + 1) ∧ a ≤ nv x := by
  have h0 : ¬ x < 0 := fun z => absurd (Int32.lt_of_le_of_lt h1 z) (nI_pos ha)
  obtain ⟨j, hj, rfl⟩ := nI_of h0
  rw [nI_leI ha hj] at h1
  rw [nI_leI hj hb] at h2
  exact ⟨⟨j, by omega, rfl⟩, by rw [nv_nI hj]; exact h1⟩
theorem pWhole_v {lo hi : Int32} {B : Nat → Int32} {n i j : Nat} {x : Int32} (h : pWhole lo hi B n i = .inr (x, j)) : lo ≤ x ∧ x ≤ hi ∧ j = nxF B n i ∧ kiF B n i = 3 := by
  unfold pWhole at h
  split at h
  · split at h
    · cases h
    · rename_i h1 h2
      cases h
      exact ⟨Int32.not_lt.mp fun z => h2 (Or.inl z), Int32.not_lt.mp fun z => h2 (Or.inr z), rfl, h1⟩
  · cases h
theorem pWhole_n {a b : Nat} {B : Nat → Int32} {n i j : Nat} {x : Int32} (ha : a < 2 ^ 31) (hb : b < 2 ^ 31) (h : pWhole (nI a) (nI b) B n i = .inr (x, j)) : iR x (b + 1) ∧ a ≤ nv x := iR_of ha hb (pWhole_v h).1 (pWhole_v h).2.1
theorem pPick_v {cs : List Int64} {B : Nat → Int32} {n i j : Nat} {x : Int32} (h : pPick cs B n i = .inr (x, j)) : iR x cs.length := by
  unfold pPick at h
  split at h
  · rename_i h1
    cases h
    rcases ixF_n (c := coT B n i) (l := cs) (x := 0) with q | ⟨k, hk, q⟩
    · exact absurd q h1.2
    · exact ⟨k, hk, by rw [q, Nat.zero_add]⟩
  · cases h
theorem pGround_v {B : Nat → Int32} {n i j : Nat} {x y : Int32} (h : pGround y B n i = .inr (x, j)) : x = -nI 2 ∧ ¬ y = 0 ∨ iR x 5 := by
  unfold pGround at h
  split at h
  · split at h
    · cases h
    · rename_i h1 h2
      rcases ixF_n (c := coT B n i) (l := soiL) (x := 0) with q | ⟨k, hk, q⟩
      · exact absurd (Or.inl q) h2
      · rw [Nat.zero_add] at q
        have hk6 : k < 6 := hk
        rw [q] at h h2
        by_cases e : nI k = nI 5
        · rw [if_pos e] at h
          cases h
          exact Or.inl ⟨rfl, fun z => h2 (Or.inr ⟨e, z⟩)⟩
        · rw [if_neg e] at h
          cases h
          refine Or.inr ⟨k, ?_, rfl⟩
          have : k ≠ 5 := fun z => e (by rw [z])
          omega
  · cases h
theorem pCell_v {E : Nat → Nat → Int32} {B : Nat → Int32} {n i j : Nat} {x : Int32} (hW : WI E) (h : pCell E B n i = .inr (x, j)) : iR x 24 := by
  unfold pCell at h
  obtain ⟨i1, ez1, h⟩ := rb_r h
  obtain ⟨⟨a, i2⟩, ez2, h⟩ := rb_r h
  obtain ⟨i3, ez3, h⟩ := rb_r h
  obtain ⟨⟨c, i4⟩, ez4, h⟩ := rb_r h
  cases h
  obtain ⟨hw, hw6, hh, hh4, -⟩ := hW
  have ha := pWhole_v ez2
  have hc := pWhole_v ez4
  rw [hw] at ha ⊢
  rw [hh] at hc
  by_cases w0 : nv (E 0 0) = 0
  · rw [w0] at ha
    exact absurd (Int32.le_trans ha.1 ha.2.1) (by decide)
  by_cases h0 : nv (E 0 1) = 0
  · rw [h0] at hc
    exact absurd (Int32.le_trans hc.1 hc.2.1) (by decide)
  rw [show (nI (nv (E 0 0)) - nI 1 : Int32) = nI (nv (E 0 0) - 1) from pk_sub (by omega)] at ha
  rw [show (nI (nv (E 0 1)) - nI 1 : Int32) = nI (nv (E 0 1) - 1) from pk_sub (by omega)] at hc
  obtain ⟨⟨a', ha', rfl⟩, -⟩ := iR_of (a := 0) (by decide) (by omega) ha.1 ha.2.1
  obtain ⟨⟨c', hc', rfl⟩, -⟩ := iR_of (a := 0) (by decide) (by omega) hc.1 hc.2.1
  refine ⟨nv (E 0 0) * c' + a', ?_, by rw [pk_mul, nI_add]⟩
  have h1 : nv (E 0 0) * c' ≤ 6 * 3 := Nat.mul_le_mul hw6 (by omega)
  omega
theorem TS_m {T : NT} {s c c' : Nat} (h : TS T s c) (hc : c ≤ c') : TS T s c' := fun j hj h1 => iR_m (h j hj h1) hc
theorem bump_c {E : Nat → Nat → Int32} {s : Nat} (h : E 1 s = nI (nv (E 1 s))) (hb : nv (E 1 s) ≤ 16) : bump E s 1 s = nI (nv (E 1 s) + 1) ∧ nv (bump E s 1 s) = nv (E 1 s) + 1 := by
  have e : bump E s 1 s = nI (nv (E 1 s) + 1) := by
    show upd (E 1) s (E 1 s + nI 1) s = _
    rw [upd_e, ← nI_add, ← h]
  exact ⟨e, by rw [e, nv_nI (by omega)]⟩
theorem CI_b {E : Nat → Nat → Int32} {s : Nat} (h : CI E) (hs : s < 13) (hc : nv (E 1 s) < rmN s) : CI (bump E s) := by
  intro t ht
  by_cases e : t = s
  · rw [e]
    have hb := bump_c (h s hs).1 (Nat.le_trans (h s hs).2 (rmN_r s hs).2)
    rw [hb.2]
    exact ⟨hb.1, by omega⟩
  · have ez2 : bump E s 1 t = E 1 t := upd_o e
    rw [ez2]
    exact h t ht
theorem CI_e {E E1 : Nat → Nat → Int32} (h : CI E) (e : E1 1 = E 1) : CI E1 := by
  intro t ht
  rw [e]
  exact h t ht
theorem nvb {E : Nat → Nat → Int32} {s : Nat} (h : CI E) (hs : s < 13) : nv (bump E s 1 s) = nv (E 1 s) + 1 := (bump_c (h s hs).1 (Nat.le_trans (h s hs).2 (rmN_r s hs).2)).2
theorem nva {E E1 : Nat → Nat → Int32} {s : Nat} (h : CI E) (hs : s < 13) (e : E1 1 = E 1) : nv (bump E1 s 1 s) = nv (E 1 s) + 1 := by
  rw [nvb (CI_e h e) hs, e]
theorem iR_b {x : Int32} {a : Nat} (h : iR x a) : iR x (a + 1) := iR_m h (by omega)
theorem pTell_v {T T1 : NT} {s n i j : Nat} {E : Nat → Nat → Int32} {B : Nat → Int32} (h : tTell T s E B n i = .inr (T1, j)) : T1 = tAdd T (coT B n i) s (E 1 s) := by
  unfold tTell at h
  obtain ⟨j1, ez1, h⟩ := rb_r h
  cases h
  rfl
theorem TS_n {T : NT} {s : Nat} {w : Int64} {x : Int32} {c : Nat} (h : TS T s c) (hx : iR x (c + 1)) : TS (tAdd T w s x) s (c + 1) := by
  intro j hj h1
  change upd T.2.2.1 T.1 (nI s) j = nI s at h1
  change iR (upd T.2.2.2 T.1 x j) (c + 1)
  change j < T.1 + 1 at hj
  by_cases e : j = T.1
  · rw [e, upd_e]
    exact hx
  · rw [upd_o e] at h1 ⊢
    exact iR_b (h j (by omega) h1)
/-! line by line -/
theorem pv0 {T T1 : NT} {E E1 : Nat → Nat → Int32} {B : Nat → Int32} {n i j : Nat} (h : landL T E B n i = .inr (T1, E1, j)) (hI : LRI T E) (hc : nv (E 1 0) < rmN 0) (hr : nv (E 1 1) = 0) : LRI T1 (bump E1 0) := by
  unfold landL at h
  obtain ⟨i1, ez1, h⟩ := rb_r h
  obtain ⟨⟨x, i2⟩, ez2, h⟩ := rb_r h
  obtain ⟨i3, ez3, h⟩ := rb_r h
  obtain ⟨⟨y, i4⟩, ez4, h⟩ := rb_r h
  obtain ⟨i5, ez5, h⟩ := rb_r h
  obtain ⟨⟨z, i6⟩, ez6, h⟩ := rb_r h
  cases h
  obtain ⟨hC, hW, hN, v1, v2, v3, v4, v5, v6, v7, v8⟩ := hI
  obtain ⟨⟨a, ha, rfl⟩, hx2⟩ := pWhole_n (by decide) (by decide) ez2
  obtain ⟨⟨b, hb, rfl⟩, hy2⟩ := pWhole_n (by decide) (by decide) ez4
  rw [nv_nI (by omega)] at hx2 hy2
  have hz := pPick_v ez6
  have hn0 := nva (E1 := ud (ud (ud E 0 0 (nI a)) 0 1 (nI b)) 0 2 z) hC (s := 0) (by decide) rfl
  refine ⟨CI_b (CI_e hC rfl) (by decide) hc, ⟨?_, ?_, ?_, ?_, ?_⟩, hN, v1, v2, v3, v4, v5, v6, v7, ?_, ?_, hz, v8.2.2.2.1, v8.2.2.2.2⟩
  · show nI a = nI (nv (nI a))
    rw [nv_nI (by omega)]
  · show nv (nI a) ≤ 6
    rw [nv_nI (by omega)]; omega
  · show nI b = nI (nv (nI b))
    rw [nv_nI (by omega)]
  · show nv (nI b) ≤ 4
    rw [nv_nI (by omega)]; omega
  · show nv (E 1 1) ≤ nv (nI b)
    rw [nv_nI (by omega), hr]; omega
  · intro q
    rw [hn0] at q
    omega
  · intro _
    show 2 ≤ nv (nI a) ∧ 1 ≤ nv (nI b)
    rw [nv_nI (by omega), nv_nI (by omega)]
    exact ⟨hx2, hy2⟩
theorem pv3 {T T1 : NT} {E E1 : Nat → Nat → Int32} {B : Nat → Int32} {n i j : Nat} (h : luckL T E B n i = .inr (T1, E1, j)) (hI : LRI T E) (hc : nv (E 1 3) < rmN 3) : LRI T1 (bump E1 3) := by
  unfold luckL at h
  obtain ⟨⟨x, i2⟩, ez2, h⟩ := rb_r h
  cases h
  obtain ⟨hC, hW, hN, v1, v2, v3, v4, v5, v6, v7, v8⟩ := hI
  exact ⟨CI_b (CI_e hC rfl) (by decide) hc, hW, hN, v1, v2, v3, v4, v5, v6, v7, v8.1, v8.2.1, v8.2.2.1, (pWhole_n (by decide) (by decide) ez2).1, v8.2.2.2.2⟩
theorem pv7 {T T1 : NT} {E E1 : Nat → Nat → Int32} {B : Nat → Int32} {n i j : Nat} (h : barsL T E B n i = .inr (T1, E1, j)) (hI : LRI T E) (hc : nv (E 1 7) < rmN 7) : LRI T1 (bump E1 7) := by
  unfold barsL at h
  obtain ⟨⟨x, i2⟩, ez2, h⟩ := rb_r h
  obtain ⟨⟨y, i3⟩, ez3, h⟩ := rb_r h
  dsimp only at h
  split at h
  · cases h
  · split at h
    · cases h
    · cases h
      obtain ⟨hC, hW, hN, v1, v2, v3, v4, v5, v6, v7, v8⟩ := hI
      exact ⟨CI_b (CI_e hC rfl) (by decide) hc, hW, hN, v1, v2, v3, v4, v5, v6, v7, v8⟩
theorem pv9 {T T1 : NT} {E E1 : Nat → Nat → Int32} {B : Nat → Int32} {n i j : Nat} (h : clashL T E B n i = .inr (T1, E1, j)) (hI : LRI T E) (hc : nv (E 1 9) < rmN 9) : LRI T1 (bump E1 9) := by
  unfold clashL at h
  obtain ⟨⟨x, i2⟩, ez2, h⟩ := rb_r h
  obtain ⟨⟨y, i3⟩, ez3, h⟩ := rb_r h
  dsimp only at h
  split at h
  · cases h
  · split at h
    · cases h
    · cases h
      obtain ⟨hC, hW, hN, v1, v2, v3, v4, v5, v6, v7, v8⟩ := hI
      exact ⟨CI_b (CI_e hC rfl) (by decide) hc, hW, hN, v1, v2, v3, v4, v5, v6, v7, v8⟩
theorem pv6 {T T1 : NT} {E E1 : Nat → Nat → Int32} {B : Nat → Int32} {n i j : Nat} (h : sendsL T E B n i = .inr (T1, E1, j)) (hI : LRI T E) (hc : nv (E 1 6) < rmN 6) : LRI T1 (bump E1 6) := by
  unfold sendsL at h
  obtain ⟨⟨x, i2⟩, ez2, h⟩ := rb_r h
  obtain ⟨⟨y, i3⟩, ez3, h⟩ := rb_r h
  dsimp only at h
  split at h
  · obtain ⟨⟨z, i4⟩, ez4, h⟩ := rb_r h
    dsimp only at h
    split at h
    · cases h
    · cases h
      obtain ⟨hC, hW, hN, v1, v2, v3, v4, v5, v6, v7, v8⟩ := hI
      have h4 := (hC 4 (by decide)).2
      have hz := TS_u hN.2.2.1 (Nat.le_trans h4 (by decide)) ez4
      refine ⟨CI_b (CI_e hC rfl) (by decide) hc, hW, hN, v1, v2, v3, v4, v5, v6, fun q hq => ?_, v8⟩
      show upd (E 17) _ z q = -nI 2 ∨ iR (upd (E 17) _ z q) (nv (E 1 4))
      by_cases e : q = nv x * 6 + nv y
      · rw [e, upd_e]
        exact Or.inr ⟨nv z, hz.2, hz.1⟩
      · rw [upd_o e]
        exact v7 q hq
  · cases h
theorem pv11 {T T1 : NT} {E E1 : Nat → Nat → Int32} {B : Nat → Int32} {n i j : Nat} (h : spellL T E B n i = .inr (T1, E1, j)) (hI : LRI T E) (hc : nv (E 1 11) < rmN 11) : LRI T1 (bump E1 11) := by
  unfold spellL at h
  obtain ⟨⟨x, i2⟩, ez2, h⟩ := rb_r h
  obtain ⟨⟨y, i3⟩, ez3, h⟩ := rb_r h
  cases h
  obtain ⟨hC, hW, hN, v1, v2, v3, v4, v5, v6, v7, v8⟩ := hI
  refine ⟨CI_b (CI_e hC rfl) (by decide) hc, hW, hN, v1, v2, v3, v4, fun q hq => ?_, v6, v7, v8⟩
  change q < nv (bump E 11 1 11) at hq
  rw [nvb hC (by decide)] at hq
  show iR (upd (E 12) _ x q) 4 ∧ iR (upd (E 13) _ y q) 10 ∧ nI 1 ≤ upd (E 13) _ y q
  by_cases e : q = nv (E 1 11)
  · rw [e, upd_e, upd_e]
    exact ⟨pPick_v ez2, (pWhole_n (by decide) (by decide) ez3).1, (pWhole_v ez3).1⟩
  · rw [upd_o e, upd_o e]
    exact v5 q (by omega)
theorem pv12 {T T1 : NT} {E E1 : Nat → Nat → Int32} {B : Nat → Int32} {n i j : Nat} (h : sawL T E B n i = .inr (T1, E1, j)) (hI : LRI T E) (hc : nv (E 1 12) < rmN 12) : LRI T1 (bump E1 12) := by
  unfold sawL at h
  obtain ⟨⟨x, i2⟩, ez2, h⟩ := rb_r h
  obtain ⟨⟨y, i3⟩, ez3, h⟩ := rb_r h
  obtain ⟨⟨z, i4⟩, ez4, h⟩ := rb_r h
  obtain ⟨⟨w, i5⟩, ez5, h⟩ := rb_r h
  cases h
  obtain ⟨hC, hW, hN, v1, v2, v3, v4, v5, v6, v7, v8⟩ := hI
  have hx := TS_u hN.2.1 (Nat.le_trans (hC 2 (by decide)).2 (by decide)) ez2
  refine ⟨CI_b (CI_e hC rfl) (by decide) hc, hW, hN, v1, v2, v3, v4, v5, fun q hq => ?_, v7, v8⟩
  change q < nv (bump E 12 1 12) at hq
  rw [nvb hC (by decide)] at hq
  show iR (upd (upd (upd (upd (E 14) (nv (E 1 12) * 4) x) (nv (E 1 12) * 4 + 1) y) (nv (E 1 12) * 4 + 2) z) (nv (E 1 12) * 4 + 3) w (q * 4)) (nv (E 1 2)) ∧ iR (upd (upd (upd (upd (E 14) (nv (E 1 12) * 4) x) (nv (E 1 12) * 4 + 1) y) (nv (E 1 12) * 4 + 2) z) (nv (E 1 12) * 4 + 3) w (q * 4 + 1)) 5 ∧ iR (upd (upd (upd (upd (E 14) (nv (E 1 12) * 4) x) (nv (E 1 12) * 4 + 1) y) (nv (E 1 12) * 4 + 2) z) (nv (E 1 12) * 4 + 3) w (q * 4 + 2)) 24 ∧ iR (upd (upd (upd (upd (E 14) (nv (E 1 12) * 4) x) (nv (E 1 12) * 4 + 1) y) (nv (E 1 12) * 4 + 2) z) (nv (E 1 12) * 4 + 3) w (q * 4 + 3)) 2
  by_cases e : q = nv (E 1 12)
  · subst e
    refine ⟨?_, ?_, ?_, ?_⟩
    · rw [upd_o (by omega), upd_o (by omega), upd_o (by omega), upd_e]
      exact ⟨nv x, hx.2, hx.1⟩
    · rw [upd_o (by omega), upd_o (by omega), upd_e]
      exact (pGround_v ez3).resolve_left fun z => z.2 rfl
    · rw [upd_o (by omega), upd_e]
      exact (pWhole_n (by decide) (by decide) ez4).1
    · rw [upd_e]
      exact pPick_v ez5
  · rw [upd_o (by omega), upd_o (by omega), upd_o (by omega), upd_o (by omega), upd_o (by omega), upd_o (by omega), upd_o (by omega), upd_o (by omega), upd_o (by omega), upd_o (by omega), upd_o (by omega), upd_o (by omega), upd_o (by omega), upd_o (by omega), upd_o (by omega), upd_o (by omega)]
    exact v6 q (by omega)
theorem pv2 {T T1 : NT} {E E1 : Nat → Nat → Int32} {B : Nat → Int32} {n i j : Nat} (h : rb (tTell T 2 E B n i) (fun t => .inr (t.1, E, t.2)) = .inr (T1, E1, j)) (hI : LRI T E) (hc : nv (E 1 2) < rmN 2) : LRI T1 (bump E1 2) := by
  obtain ⟨⟨t, i2⟩, ez2, h⟩ := rb_r h
  cases h
  obtain ⟨hC, hW, hN, v1, v2, v3, v4, v5, v6, v7, v8⟩ := hI
  have ht := pTell_v ez2
  subst ht
  have hb := nvb hC (s := 2) (by decide)
  refine ⟨CI_b hC (by decide) hc, hW, ⟨?_, ?_, TS_a hN.2.2.1 (by decide) (by decide) (by decide), TS_a hN.2.2.2 (by decide) (by decide) (by decide)⟩, v1, v2, fun p hp => ?_, v4, v5, fun s hs => ?_, v7, v8⟩
  · show T.1 + 1 = nv (bump E 2 1 2) + nv (E 1 4) + nv (E 1 8) + nv (E 1 10)
    rw [hb, hN.1]; omega
  · show TS _ 2 (nv (bump E 2 1 2))
    rw [hb]
    exact TS_n hN.2.1 ⟨_, Nat.lt_succ_self _, (hC 2 (by decide)).1⟩
  · have := v3 p hp
    refine ⟨?_, this.2⟩
    show iR (E 9 (p * 7 + 0)) (nv (bump E 2 1 2))
    rw [hb]
    exact iR_b this.1
  · have := v6 s hs
    refine ⟨?_, this.2⟩
    show iR (E 14 (s * 4)) (nv (bump E 2 1 2))
    rw [hb]
    exact iR_b this.1
theorem pv4 {T T1 : NT} {E E1 : Nat → Nat → Int32} {B : Nat → Int32} {n i j : Nat} (h : godL T E B n i = .inr (T1, E1, j)) (hI : LRI T E) (hc : nv (E 1 4) < rmN 4) : LRI T1 (bump E1 4) := by
  unfold godL at h
  obtain ⟨⟨t, i2⟩, ez2, h⟩ := rb_r h
  obtain ⟨⟨a, i3⟩, ez3, h⟩ := rb_r h
  obtain ⟨i4, ez4, h⟩ := rb_r h
  obtain ⟨⟨p, i5⟩, ez5, h⟩ := rb_r h
  obtain ⟨i6, ez6, h⟩ := rb_r h
  obtain ⟨⟨s, i7⟩, ez7, h⟩ := rb_r h
  obtain ⟨i8, ez8, h⟩ := rb_r h
  obtain ⟨⟨f, i9⟩, ez9, h⟩ := rb_r h
  obtain ⟨i10, ez10, h⟩ := rb_r h
  obtain ⟨⟨u, i11⟩, ez11, h⟩ := rb_r h
  cases h
  obtain ⟨hC, hW, hN, v1, v2, v3, v4, v5, v6, v7, v8⟩ := hI
  have ht := pTell_v ez2
  subst ht
  have hb := nvb hC (s := 4) (by decide)
  obtain ⟨⟨f', hf', rfl⟩, -⟩ := pWhole_n (by decide) (by decide) ez9
  have hu : iR u 25 := by
    have ez12 : pWhole (nI f' + nI 1) (nI 24) B n i10 = .inr (u, i11) := ez11
    rw [nI_add] at ez12
    exact (pWhole_n (by omega) (by decide) ez12).1
  refine ⟨CI_b (CI_e hC rfl) (by decide) hc, hW, ⟨?_, TS_a hN.2.1 (by decide) (by decide) (by decide), ?_, TS_a hN.2.2.2 (by decide) (by decide) (by decide)⟩, v1, fun q hq => ?_, fun q hq => ?_, fun q hq => ?_, v5, v6, fun q hq => ?_, v8⟩
  · show T.1 + 1 = nv (E 1 2) + nv (bump E 4 1 4) + nv (E 1 8) + nv (E 1 10)
    rw [hb, hN.1]; omega
  · show TS _ 4 (nv (bump E 4 1 4))
    rw [hb]
    exact TS_n hN.2.2.1 ⟨_, Nat.lt_succ_self _, (hC 4 (by decide)).1⟩
  · change q < nv (bump E 4 1 4) at hq
    rw [hb] at hq
    show iR (upd (E 3) _ a q) 4 ∧ iR (upd (E 4) _ s q) 10 ∧ iR (upd (E 5) _ (nI f') q) 24 ∧ iR (upd (E 6) _ u q) 25 ∧ iR (upd (E 16) _ p q) 100
    by_cases e : q = nv (E 1 4)
    · rw [e, upd_e, upd_e, upd_e, upd_e, upd_e]
      exact ⟨pPick_v ez3, (pWhole_n (by decide) (by decide) ez7).1, ⟨f', hf', rfl⟩, hu, (pWhole_n (by decide) (by decide) ez5).1⟩
    · rw [upd_o e, upd_o e, upd_o e, upd_o e, upd_o e]
      exact v2 q (by omega)
  · have := v3 q hq
    refine ⟨this.1, this.2.1, this.2.2.1, ?_, this.2.2.2.2⟩
    show iR (E 9 (q * 7 + 3)) (nv (bump E 4 1 4))
    rw [hb]
    exact iR_b this.2.2.2.1
  · have := v4 q hq
    refine ⟨this.1, ?_⟩
    show iR (E 18 q) (nv (bump E 4 1 4))
    rw [hb]
    exact iR_b this.2
  · show E 17 q = -nI 2 ∨ iR (E 17 q) (nv (bump E 4 1 4))
    rw [hb]
    exact (v7 q hq).elim Or.inl fun z => Or.inr (iR_b z)
theorem pv8 {T T1 : NT} {E E1 : Nat → Nat → Int32} {B : Nat → Int32} {n i j : Nat} (h : prayerL T E B n i = .inr (T1, E1, j)) (hI : LRI T E) (hc : nv (E 1 8) < rmN 8) : LRI T1 (bump E1 8) := by
  unfold prayerL at h
  obtain ⟨⟨t, i2⟩, ez2, h⟩ := rb_r h
  obtain ⟨⟨x, i3⟩, ez3, h⟩ := rb_r h
  obtain ⟨⟨c, i4⟩, ez4, h⟩ := rb_r h
  obtain ⟨i5, ez5, h⟩ := rb_r h
  obtain ⟨⟨hh, i6⟩, ez6, h⟩ := rb_r h
  obtain ⟨i7, ez7, h⟩ := rb_r h
  obtain ⟨⟨g, i8⟩, ez8, h⟩ := rb_r h
  obtain ⟨⟨w, i9⟩, ez9, h⟩ := rb_r h
  obtain ⟨i10, ez10, h⟩ := rb_r h
  obtain ⟨⟨p, i11⟩, ez11, h⟩ := rb_r h
  obtain ⟨i12, ez12, h⟩ := rb_r h
  obtain ⟨⟨u, i13⟩, ez13, h⟩ := rb_r h
  cases h
  obtain ⟨hC, hW, hN, v1, v2, v3, v4, v5, v6, v7, v8⟩ := hI
  have ht := pTell_v ez2
  subst ht
  have hb := nvb hC (s := 8) (by decide)
  have hx := TS_u (TS_a hN.2.1 (by decide) (by decide) (by decide)) (Nat.le_trans (hC 2 (by decide)).2 (by decide)) ez3
  have hg := TS_u (TS_a hN.2.2.1 (by decide) (by decide) (by decide)) (Nat.le_trans (hC 4 (by decide)).2 (by decide)) ez8
  have hcc : iR c 24 := pCell_v (E := ud E 9 (nv (E 1 8) * 7 + 0) x) hW ez4
  refine ⟨CI_b (CI_e hC rfl) (by decide) hc, hW, ⟨?_, TS_a hN.2.1 (by decide) (by decide) (by decide), TS_a hN.2.2.1 (by decide) (by decide) (by decide), ?_⟩, v1, v2, fun q hq => ?_, v4, v5, v6, v7, v8⟩
  · show T.1 + 1 = nv (E 1 2) + nv (E 1 4) + nv (bump E 8 1 8) + nv (E 1 10)
    rw [hb, hN.1]; omega
  · show TS _ 8 (nv (bump E 8 1 8))
    rw [hb]
    exact TS_n hN.2.2.2 ⟨_, Nat.lt_succ_self _, (hC 8 (by decide)).1⟩
  · change q < nv (bump E 8 1 8) at hq
    rw [hb] at hq
    have hrow : bump (ud (ud (ud (ud (ud (ud (ud E 9 (nv (E 1 8) * 7 + 0) x) 9 (nv (E 1 8) * 7 + 1) c) 9 (nv (E 1 8) * 7 + 2) hh) 9 (nv (E 1 8) * 7 + 3) g) 9 (nv (E 1 8) * 7 + 4) w) 9 (nv (E 1 8) * 7 + 5) p) 9 (nv (E 1 8) * 7 + 6) u) 8 9 = upd (upd (upd (upd (upd (upd (upd (E 9) (nv (E 1 8) * 7 + 0) x) (nv (E 1 8) * 7 + 1) c) (nv (E 1 8) * 7 + 2) hh) (nv (E 1 8) * 7 + 3) g) (nv (E 1 8) * 7 + 4) w) (nv (E 1 8) * 7 + 5) p) (nv (E 1 8) * 7 + 6) u := rfl
    rw [hrow]
    by_cases e : q = nv (E 1 8)
    · subst e
      refine ⟨?_, ?_, ?_, ?_, ?_, ?_, ?_⟩
      · rw [upd_o (by omega), upd_o (by omega), upd_o (by omega), upd_o (by omega), upd_o (by omega), upd_o (by omega), upd_e]
        exact ⟨nv x, hx.2, hx.1⟩
      · rw [upd_o (by omega), upd_o (by omega), upd_o (by omega), upd_o (by omega), upd_o (by omega), upd_e]
        exact hcc
      · rw [upd_o (by omega), upd_o (by omega), upd_o (by omega), upd_o (by omega), upd_e]
        exact (pWhole_n (by decide) (by decide) ez6).1
      · rw [upd_o (by omega), upd_o (by omega), upd_o (by omega), upd_e]
        exact ⟨nv g, hg.2, hg.1⟩
      · rw [upd_o (by omega), upd_o (by omega), upd_e]
        exact (pWhole_n (by decide) (by decide) ez9).1
      · rw [upd_o (by omega), upd_e]
        exact (pWhole_n (by decide) (by decide) ez11).1
      · rw [upd_e]
        exact (pWhole_n (by decide) (by decide) ez13).1
    · have hk : ∀ k, k < 7 → upd (upd (upd (upd (upd (upd (upd (E 9) (nv (E 1 8) * 7 + 0) x) (nv (E 1 8) * 7 + 1) c) (nv (E 1 8) * 7 + 2) hh) (nv (E 1 8) * 7 + 3) g) (nv (E 1 8) * 7 + 4) w) (nv (E 1 8) * 7 + 5) p) (nv (E 1 8) * 7 + 6) u (q * 7 + k) = E 9 (q * 7 + k) := by
        intro k hk
        rw [upd_o (by omega), upd_o (by omega), upd_o (by omega), upd_o (by omega), upd_o (by omega), upd_o (by omega), upd_o (by omega)]
      rw [hk 0 (by decide), hk 1 (by decide), hk 2 (by decide), hk 3 (by decide), hk 4 (by decide), hk 5 (by decide), hk 6 (by decide)]
      exact v3 q (by omega)
theorem pv10 {T T1 : NT} {E E1 : Nat → Nat → Int32} {B : Nat → Int32} {n i j : Nat} (h : villL T E B n i = .inr (T1, E1, j)) (hI : LRI T E) (hc : nv (E 1 10) < rmN 10) : LRI T1 (bump E1 10) := by
  unfold villL at h
  obtain ⟨⟨t, i2⟩, ez2, h⟩ := rb_r h
  obtain ⟨⟨c, i3⟩, ez3, h⟩ := rb_r h
  obtain ⟨i4, ez4, h⟩ := rb_r h
  obtain ⟨⟨g, i5⟩, ez5, h⟩ := rb_r h
  cases h
  obtain ⟨hC, hW, hN, v1, v2, v3, v4, v5, v6, v7, v8⟩ := hI
  have ht := pTell_v ez2
  subst ht
  have hb := nvb hC (s := 10) (by decide)
  have hg := TS_u (TS_a hN.2.2.1 (by decide) (by decide) (by decide)) (Nat.le_trans (hC 4 (by decide)).2 (by decide)) ez5
  have hcc : iR c 24 := pCell_v hW ez3
  refine ⟨CI_b (CI_e hC rfl) (by decide) hc, hW, ⟨?_, TS_a hN.2.1 (by decide) (by decide) (by decide), TS_a hN.2.2.1 (by decide) (by decide) (by decide), TS_a hN.2.2.2 (by decide) (by decide) (by decide)⟩, v1, v2, v3, fun q hq => ?_, v5, v6, v7, v8⟩
  · show T.1 + 1 = nv (E 1 2) + nv (E 1 4) + nv (E 1 8) + nv (bump E 10 1 10)
    rw [hb, hN.1]; omega
  · change q < nv (bump E 10 1 10) at hq
    rw [hb] at hq
    show iR (upd (E 11) _ c q) 24 ∧ iR (upd (E 18) _ g q) (nv (E 1 4))
    by_cases e : q = nv (E 1 10)
    · rw [e, upd_e, upd_e]
      exact ⟨hcc, nv g, hg.2, hg.1⟩
    · rw [upd_o e, upd_o e]
      exact v4 q (by omega)
theorem hiQ_r {g : Nat} {y s h : Int32} {t f : Nat} {E : Nat → Nat → Int32} (hf : f ≠ 7) : ∀ u, hiQ g y s h t E u f = E f
  | 0 => rfl
  | u + 1 => by
    rw [hiQ_s]
    unfold hiS
    split
    · rw [ud_ne hf, hiQ_r hf u]
    · exact hiQ_r hf u
theorem htQ_r {g : Nat} {y s h : Int32} {f : Nat} {E : Nat → Nat → Int32} (hf : f ≠ 7) : ∀ t, htQ g y s h E t f = E f
  | 0 => rfl
  | t + 1 => by rw [htQ_s, htS_e, hiQ_r hf, htQ_r hf t]
/-- the rows that a land's numbers stand in are the same -/
theorem LRI_e {T : NT} {E E1 : Nat → Nat → Int32} (hI : LRI T E) (h : ∀ f, f ≠ 7 → E1 f = E f) : LRI T E1 := by
  obtain ⟨hC, hW, hN, v1, v2, v3, v4, v5, v6, v7, v8⟩ := hI
  have ez0 := h 0 (by decide)
  have ez1 := h 1 (by decide)
  refine ⟨CI_e hC ez1, ?_, ?_, ?_, ?_, ?_, ?_, ?_, ?_, ?_, ?_⟩
  · unfold WI; rw [ez0, ez1]; exact hW
  · unfold NN; rw [ez1]; exact hN
  · unfold V1; rw [h 2 (by decide)]; exact v1
  · unfold V2; rw [ez1, h 3 (by decide), h 4 (by decide), h 5 (by decide), h 6 (by decide), h 16 (by decide)]; exact v2
  · unfold V3; rw [ez1, h 9 (by decide)]; exact v3
  · unfold V4; rw [ez1, h 11 (by decide), h 18 (by decide)]; exact v4
  · unfold V5; rw [ez1, h 12 (by decide), h 13 (by decide)]; exact v5
  · unfold V6; rw [ez1, h 14 (by decide)]; exact v6
  · unfold V7; rw [ez1, h 17 (by decide)]; exact v7
  · unfold V8; rw [ez0, ez1, h 15 (by decide)]; exact v8
theorem pv5 {T T1 : NT} {E E1 : Nat → Nat → Int32} {B : Nat → Int32} {n i j : Nat} (h : holdsL T E B n i = .inr (T1, E1, j)) (hI : LRI T E) (hc : nv (E 1 5) < rmN 5) : LRI T1 (bump E1 5) := by
  unfold holdsL at h
  obtain ⟨⟨x, i2⟩, ez2, h⟩ := rb_r h
  obtain ⟨⟨y, i3⟩, ez3, h⟩ := rb_r h
  obtain ⟨⟨s, i4⟩, ez4, h⟩ := rb_r h
  obtain ⟨⟨f, i5⟩, ez5, h⟩ := rb_r h
  obtain ⟨i6, ez6, h⟩ := rb_r h
  obtain ⟨⟨t, i7⟩, ez7, h⟩ := rb_r h
  cases h
  have hI2 := LRI_e (E1 := htQ (nv x) y s (nI 1 <<< (t &&& 31) - nI 1 <<< (f &&& 31)) E 6) hI (fun f hf => htQ_r hf 6)
  obtain ⟨hC, hW, hN, v1, v2, v3, v4, v5, v6, v7, v8⟩ := hI2
  exact ⟨CI_b hC (by decide) (by rw [htQ_r (by decide) 6]; exact hc), hW, hN, v1, v2, v3, v4, v5, v6, v7, v8⟩
theorem rw_V1 {B : Nat → Int32} {r p : Nat} {E : Nat → Nat → Int32} (h : V1 E) : ∀ x, (∀ y, y < x → soP (B (p + y))) → V1 (rwQ B r p E x)
  | 0, _ => h
  | x + 1, hs => by
    intro c hc
    rw [rwQ_s]
    show iR (upd (rwQ B r p E x 2) (r + x) (B (p + x) - nI 97) c) 5
    by_cases e : c = r + x
    · rw [e, upd_e]
      have h1 := hs x (by omega)
      obtain ⟨k, hk, ek⟩ := nI_of h1.1
      have h2 := h1.2
      rw [ek] at h2 ⊢
      refine ⟨k, ?_, rfl⟩
      rw [nI_leI (by decide) hk] at h2
      omega
    · rw [upd_o e]
      exact rw_V1 h x (fun y hy => hs y (by omega)) c hc
theorem pv1 {T T1 : NT} {E E1 : Nat → Nat → Int32} {B : Nat → Int32} {n i j : Nat} (h : rowL T E B n i = .inr (T1, E1, j)) (hI : LRI T E) (hc : nv (E 1 1) < nv (E 0 1)) : LRI T1 (bump E1 1) := by
  unfold rowL at h
  split at h
  · split at h
    · split at h
      · rename_i h1 h2 h3
        cases h
        have hr := fun f (hf : f ≠ 2) => rwQ_r (B := B) (r := nv (E 1 1) * nv (E 0 0)) (p := plF B n i) (E := E) hf (nv (E 0 0))
        obtain ⟨hC, hW, hN, v1, v2, v3, v4, v5, v6, v7, v8⟩ := hI
        have hC1 : CI (rwQ B (nv (E 1 1) * nv (E 0 0)) (plF B n i) E (nv (E 0 0))) := CI_e hC (hr 1 (by decide))
        have hb := nva hC (s := 1) (by decide) (hr 1 (by decide))
        have ez0 := hr 0 (by decide)
        have ez1 := hr 1 (by decide)
        have ez1' : ∀ s, s ≠ 1 → bump (rwQ B (nv (E 1 1) * nv (E 0 0)) (plF B n i) E (nv (E 0 0))) 1 1 s = E 1 s := fun s hs => by
          show upd _ 1 _ s = _
          rw [upd_o hs, ez1]
        have eb : ∀ f, f ≠ 1 → bump (rwQ B (nv (E 1 1) * nv (E 0 0)) (plF B n i) E (nv (E 0 0))) 1 f = rwQ B (nv (E 1 1) * nv (E 0 0)) (plF B n i) E (nv (E 0 0)) f := fun f hf => ud_ne hf
        refine ⟨CI_b hC1 (by decide) ?_, ?_, ?_, ?_, ?_, ?_, ?_, ?_, ?_, ?_, ?_⟩
        · rw [ez1]
          have := hW.2.2.2.1
          show nv (E 1 1) < 4
          omega
        · unfold WI
          rw [hb, eb 0 (by decide), ez0]
          exact ⟨hW.1, hW.2.1, hW.2.2.1, hW.2.2.2.1, hc⟩
        · unfold NN
          rw [ez1' 2 (by decide), ez1' 4 (by decide), ez1' 8 (by decide), ez1' 10 (by decide)]
          exact hN
        · unfold V1
          rw [eb 2 (by decide)]
          exact rw_V1 v1 _ h3
        · unfold V2; rw [ez1' 4 (by decide), eb 3 (by decide), eb 4 (by decide), eb 5 (by decide), eb 6 (by decide), eb 16 (by decide), hr 3 (by decide), hr 4 (by decide), hr 5 (by decide), hr 6 (by decide), hr 16 (by decide)]; exact v2
        · unfold V3; rw [ez1' 8 (by decide), ez1' 2 (by decide), ez1' 4 (by decide), eb 9 (by decide), hr 9 (by decide)]; exact v3
        · unfold V4; rw [ez1' 10 (by decide), ez1' 4 (by decide), eb 11 (by decide), eb 18 (by decide), hr 11 (by decide), hr 18 (by decide)]; exact v4
        · unfold V5; rw [ez1' 11 (by decide), eb 12 (by decide), eb 13 (by decide), hr 12 (by decide), hr 13 (by decide)]; exact v5
        · unfold V6; rw [ez1' 12 (by decide), ez1' 2 (by decide), eb 14 (by decide), hr 14 (by decide)]; exact v6
        · unfold V7; rw [ez1' 4 (by decide), eb 17 (by decide), hr 17 (by decide)]; exact v7
        · unfold V8; rw [ez1' 0 (by decide), eb 0 (by decide), eb 15 (by decide), ez0, hr 15 (by decide)]; exact v8
      · cases h
    · cases h
  · cases h
theorem pvN {T T1 : NT} {E E1 : Nat → Nat → Int32} {B : Nat → Int32} {n i j : Nat} {s : Nat} (h : lnF s T E B n i = .inr (T1, E1, j)) (hI : LRI T E) (hs : s < 13) (hc : nv (E 1 s) < rmN s) (h1 : s = 1 → nv (E 1 1) < nv (E 0 1)) (h0 : s = 0 → nv (E 1 1) = 0) : LRI T1 (bump E1 s) := by
  match s, hs with
  | 0, _ => exact pv0 h hI hc (h0 rfl)
  | 1, _ => exact pv1 h hI (h1 rfl)
  | 2, _ => exact pv2 h hI hc
  | 3, _ => exact pv3 h hI hc
  | 4, _ => exact pv4 h hI hc
  | 5, _ => exact pv5 h hI hc
  | 6, _ => exact pv6 h hI hc
  | 7, _ => exact pv7 h hI hc
  | 8, _ => exact pv8 h hI hc
  | 9, _ => exact pv9 h hI hc
  | 10, _ => exact pv10 h hI hc
  | 11, _ => exact pv11 h hI hc
  | 12, _ => exact pv12 h hI hc
  | k + 13, hk => exact absurd hk (by omega)
