/-! ===== runs of bytes ===== -/
abbrev inb (f l : Int32) (B : Nat → Int32) (n j : Nat) : Prop := j < n ∧ f ≤ B j ∧ B j ≤ l
def rnS (f l : Int32) (B : Nat → Int32) (n p : Nat) : Nat → Nat → Nat := fun j y => if y = j ∧ inb f l B n (p + j) then j + 1 else y
def rnQ (f l : Int32) (B : Nat → Int32) (n p k : Nat) : Nat := fo (rnS f l B n p) 0 k
theorem rnQ_s {f l : Int32} {B : Nat → Int32} {n p k : Nat} : rnQ f l B n p (k + 1) = rnS f l B n p k (rnQ f l B n p k) := fo_s
def rn (f l : Int32) (B : Nat → Int32) (n p : Nat) : Nat := rnQ f l B n p (n - p)
theorem rnQ_i {f l : Int32} {B : Nat → Int32} {n p : Nat} : ∀ k, rnQ f l B n p k ≤ k ∧ (∀ j, j < rnQ f l B n p k → inb f l B n (p + j)) ∧ (rnQ f l B n p k < k → ¬ inb f l B n (p + rnQ f l B n p k))
  | 0 => ⟨Nat.le_refl _, fun j h => absurd h (by show ¬ j < 0; omega), fun h => absurd h (by show ¬ (0 : Nat) < 0; omega)⟩
  | k + 1 => by
    obtain ⟨h1, h2, h3⟩ := rnQ_i (f := f) (l := l) (B := B) (n := n) (p := p) k
    rw [rnQ_s]
    unfold rnS
    by_cases h : rnQ f l B n p k = k ∧ inb f l B n (p + k)
    · rw [if_pos h]
      refine ⟨Nat.le_refl _, fun j hj => ?_, fun z => absurd z (by omega)⟩
      by_cases e : j = k
      · rw [e]; exact h.2
      · exact h2 j (by omega)
    · rw [if_neg h]
      refine ⟨by omega, h2, fun _ => ?_⟩
      by_cases e : rnQ f l B n p k = k
      · rw [e]; exact fun z => h ⟨e, z⟩
      · exact h3 (by omega)
theorem rn_in {f l : Int32} {B : Nat → Int32} {n p j : Nat} (h : j < rn f l B n p) : inb f l B n (p + j) := (rnQ_i _).2.1 j h
theorem rn_out {f l : Int32} {B : Nat → Int32} {n p : Nat} : ¬ inb f l B n (p + rn f l B n p) := by
  have h := rnQ_i (f := f) (l := l) (B := B) (n := n) (p := p) (n - p)
  rcases Nat.lt_or_ge (rn f l B n p) (n - p) with q | q
  · exact h.2.2 q
  · exact fun z => absurd z.1 (by omega)
theorem rn_u {f l : Int32} {B : Nat → Int32} {n p k : Nat} (h1 : ∀ j, j < k → inb f l B n (p + j)) (h2 : ¬ inb f l B n (p + k)) : rn f l B n p = k := by
  rcases Nat.lt_trichotomy (rn f l B n p) k with q | q | q
  · exact absurd (h1 _ q) rn_out
  · exact q
  · exact absurd (rn_in q) h2
theorem rn_le {f l : Int32} {B : Nat → Int32} {n p : Nat} (hp : p ≤ n) : p + rn f l B n p ≤ n := by
  have h := (rnQ_i (f := f) (l := l) (B := B) (n := n) (p := p) (n - p)).1
  show p + rnQ f l B n p (n - p) ≤ n
  omega
/-! ===== tokens: 0 the end, 1 none, 2 a word, 3 a whole, 4 a sign ===== -/
def plF (B : Nat → Int32) (n i : Nat) : Nat := i + rn (nI 32) (nI 32) B n i
def wlF (B : Nat → Int32) (n p : Nat) : Nat := rn (nI 97) (nI 122) B n p
def dlF (B : Nat → Int32) (n p : Nat) : Nat := rn (nI 48) (nI 57) B n p
abbrev ltr (x : Int32) : Prop := nI 97 ≤ x ∧ x ≤ nI 122
abbrev dgt (x : Int32) : Prop := nI 48 ≤ x ∧ x ≤ nI 57
abbrev sgn (x : Int32) : Prop := x = nI 59 ∨ x = nI 44
def kiP (B : Nat → Int32) (n p : Nat) : Nat := if n ≤ p then 0 else if ltr (B p) then (if 8 < wlF B n p then 1 else 2) else if dgt (B p) then (if 3 < dlF B n p then 1 else 3) else if sgn (B p) then 4 else 1
def nxP (B : Nat → Int32) (n p : Nat) : Nat := if n ≤ p then p else if ltr (B p) then p + wlF B n p else if dgt (B p) then p + dlF B n p else p + 1
def cdS (f : Int32) (B : Nat → Int32) (p : Nat) : Nat → Int64 → Int64 := fun j y => y * lN 32 + (B (p + j) - f + nI 1).toInt64
def cdQ (f : Int32) (B : Nat → Int32) (p j : Nat) : Int64 := fo (cdS f B p) (lN 0) j
theorem cdQ_s {f : Int32} {B : Nat → Int32} {p j : Nat} : cdQ f B p (j + 1) = cdQ f B p j * lN 32 + (B (p + j) - f + nI 1).toInt64 := fo_s
def vaQ (f : Int32) (B : Nat → Int32) (p j : Nat) : Int32 := fo (fun j y => y * nI 10 + (B (p + j) - f)) (nI 0) j
theorem vaQ_s {f : Int32} {B : Nat → Int32} {p j : Nat} : vaQ f B p (j + 1) = vaQ f B p j * nI 10 + (B (p + j) - f) := fo_s
def kiF (B : Nat → Int32) (n i : Nat) : Nat := kiP B n (plF B n i)
def nxF (B : Nat → Int32) (n i : Nat) : Nat := nxP B n (plF B n i)
def coT (B : Nat → Int32) (n i : Nat) : Int64 := cdQ (nI 97) B (plF B n i) (wlF B n (plF B n i))
def vaT (B : Nat → Int32) (n i : Nat) : Int32 := vaQ (nI 48) B (plF B n i) (dlF B n (plF B n i))
def leT (B : Nat → Int32) (n i : Nat) : Nat := wlF B n (plF B n i)
theorem plF_le {B : Nat → Int32} {n i : Nat} (h : i ≤ n) : plF B n i ≤ n := rn_le h
theorem nxP_le {B : Nat → Int32} {n p : Nat} (h : p ≤ n) : nxP B n p ≤ n := by
  unfold nxP
  split
  · exact h
  · split
    · exact rn_le h
    · split
      · exact rn_le h
      · omega
theorem nxF_le {B : Nat → Int32} {n i : Nat} (h : i ≤ n) : nxF B n i ≤ n := nxP_le (plF_le h)
/-- the class's tape stands at the token behind place i -/
def TC (B : Nat → Int32) (n i : Nat) (D : Nat → Nat → Int32) (K : Nat → Nat → Int64) : Prop := D 2 = B ∧ D 1 2 = nI n ∧ D 1 5 = nI (plF B n i) ∧ D 1 4 = nI (kiF B n i) ∧ D 1 3 = nI (nxF B n i) ∧ (kiF B n i = 2 → D 1 6 = nI (leT B n i) ∧ K 1 8 = coT B n i) ∧ (kiF B n i = 3 → D 1 7 = vaT B n i) ∧ (kiF B n i = 4 → D 1 7 = B (plF B n i)) ∧ D 1 1 = nI 0
theorem lq109 {sc : Nat × (Nat → Int32)} {d : Nat} {m : Mm} {Q : Option Value → Mm → Prop} {b : Nat} {E : Nat → Nat → Int32} {L : Nat → Nat → Int64} (hW : Wd m.2.2) (hB2 : LW m.2.2 b) (hdj : b + 19 ≤ 87 ∨ 87 + 6 ≤ b) {B : Nat → Int32} {n p : Nat} {f l : Int32} {D0 : Nat → Nat → Int32} {K0 : Nat → Nat → Int64} (hn : n ≤ 1200) (hp : p ≤ n) (h02 : D0 1 2 = nI n) (h05 : D0 1 5 = nI p) (h0B : D0 2 = B) (hQ : ∀ D K, D 1 7 = vaQ f B p (rn f l B n p) → K 1 8 = cdQ f B p (rn f l B n p) → D 1 3 = nI (p + rn f l B n p) → D 1 6 = nI (rn f l B n p) → (∀ k, k ≠ 7 → k ≠ 3 → k ≠ 6 → D 1 k = D0 1 k) → (∀ g, g ≠ 1 → D g = D0 g) → (∀ g, g ≠ 1 → K g = K0 g) → Q none (pp m 87 6 D K b 19 E L))  : ∀ (j i : Nat) (D : Nat → Nat → Int32) (K : Nat → Nat → Int64), i ≤ (n - p) → (n - p) + 1 ≤ i + j → (D 1 7 = vaQ f B p i ∧ K 1 8 = cdQ f B p i ∧ D 1 3 = nI (p + i) ∧ (∀ k, k ≠ 7 → k ≠ 3 → D 1 k = D0 1 k) ∧ (∀ g, g ≠ 1 → D g = D0 g) ∧ (∀ g, g ≠ 1 → K g = K0 g) ∧ ∀ j, j < i → inb f l B n (p + j)) → Jj sc d 0 0 (mth 109) (pg P109 6).1 [some (.ref 88), some (.int f), some (.int l)] [] (pp m 87 6 D K b 19 E L) 0 0 Q := by
  intro j
  induction j with
  | zero => intro i D K h1 h2 hall; omega
  | succ j ih =>
    intro i D K h1 h2 hall
    refine J_w z109 (i := 6) (by decide) 162 ?_
    obtain ⟨q7, q8, q3, qk, qD, qK, qi⟩ := hall
    have q2 : D 1 2 = nI n := (qk 2 (by decide) (by decide)).trans h02
    have q5 : D 1 5 = nI p := (qk 5 (by decide) (by decide)).trans h05
    have qB : D 2 = B := (qD 2 (by decide)).trans h0B
    refine And.intro (Wdo_88 hW) ?_
    rw [pp_1 (x := 87) (f := 1) (by decide)]
    rw [q3]
    refine And.intro (Wdo_88 hW) ?_
    rw [pp_1 (x := 87) (f := 1) (by decide)]
    rw [q2]
    refine And.intro (fun cz10 => ?_) (fun cz10 => ?_)
    · -- 10 taken: nI n ≤ nI ((p + i))
      have kz10 : n ≤ (p + i) := kle (a := n) (b := (p + i)) rfl rfl (by omega) (by omega) cz10
      refine And.intro (Wdo_88 hW) ?_
      rw [pp_1 (x := 87) (f := 1) (by decide)]
      rw [q3]
      refine And.intro (Wdo_88 hW) ?_
      rw [pp_1 (x := 87) (f := 1) (by decide)]
      rw [q5]
      refine And.intro (Wdo_88 hW) ?_
      rw [pp_u1 (x := 87) (f := 1) (by decide)]
      refine And.intro ⟨rfl, rfl, Nat.le_refl _, Nat.le_refl _⟩ ?_
      have ez9 := rn_u (f := f) (l := l) (B := B) (n := n) (p := p) (k := i) qi (fun z => absurd z.1 (by omega))
      refine hQ _ _ (by rw [ez9]; exact q7) (by rw [ez9]; exact q8) (by rw [ez9]; exact q3) (by rw [ez9]; show nI (p + i) - nI p = nI i; rw [pk_sub (by omega), show p + i - p = i by omega]) (fun k h7 h3 h6 => ?_) (fun g hg => ?_) qK
      · show upd (D 1) 6 _ k = D0 1 k
        rw [upd_o h6]
        exact qk k h7 h3
      · rw [ud_ne hg]
        exact qD g hg
    · -- 10 not: ¬ nI n ≤ nI ((p + i))
      have kz10 : (p + i) < n := knle (a := n) (b := (p + i)) rfl rfl (by omega) (by omega) cz10
      refine And.intro (Wdo_88 hW) (Exists.intro _ (And.intro (Wdr_88_0 hW) ?_))
      refine And.intro (Wdo_88 hW) ?_
      rw [pp_1 (x := 87) (f := 1) (by decide)]
      rw [q3]
      refine And.intro (Wdi_89 hW (vi rfl (by omega))) ?_
      rw [nI_clamp (show (p + i) < 2 ^ 31 by omega)]
      rw [pp_1 (x := 87) (f := 2) (by decide)]
      rw [qB]
      refine And.intro (fun cz17 => ?_) (fun cz17 => ?_)
      · -- 17 taken: B (p + i) < f
        refine And.intro (Wdo_88 hW) ?_
        rw [pp_1 (x := 87) (f := 1) (by decide)]
        rw [q3]
        refine And.intro (Wdo_88 hW) ?_
        rw [pp_1 (x := 87) (f := 1) (by decide)]
        rw [q5]
        refine And.intro (Wdo_88 hW) ?_
        rw [pp_u1 (x := 87) (f := 1) (by decide)]
        refine And.intro ⟨rfl, rfl, Nat.le_refl _, Nat.le_refl _⟩ ?_
        have ez9 := rn_u (f := f) (l := l) (B := B) (n := n) (p := p) (k := i) qi (fun z => absurd z.2.1 (Int32.not_le.mpr cz17))
        refine hQ _ _ (by rw [ez9]; exact q7) (by rw [ez9]; exact q8) (by rw [ez9]; exact q3) (by rw [ez9]; show nI (p + i) - nI p = nI i; rw [pk_sub (by omega), show p + i - p = i by omega]) (fun k h7 h3 h6 => ?_) (fun g hg => ?_) qK
        · show upd (D 1) 6 _ k = D0 1 k
          rw [upd_o h6]
          exact qk k h7 h3
        · rw [ud_ne hg]
          exact qD g hg
      · -- 17 not: ¬ B (p + i) < f
        refine And.intro (Wdo_88 hW) (Exists.intro _ (And.intro (Wdr_88_0 hW) ?_))
        refine And.intro (Wdo_88 hW) ?_
        rw [pp_1 (x := 87) (f := 1) (by decide)]
        rw [q3]
        refine And.intro (Wdi_89 hW (vi rfl (by omega))) ?_
        rw [nI_clamp (show (p + i) < 2 ^ 31 by omega)]
        rw [pp_1 (x := 87) (f := 2) (by decide)]
        rw [qB]
        refine And.intro (fun cz24 => ?_) (fun cz24 => ?_)
        · -- 24 taken: l < B (p + i)
          refine And.intro (Wdo_88 hW) ?_
          rw [pp_1 (x := 87) (f := 1) (by decide)]
          rw [q3]
          refine And.intro (Wdo_88 hW) ?_
          rw [pp_1 (x := 87) (f := 1) (by decide)]
          rw [q5]
          refine And.intro (Wdo_88 hW) ?_
          rw [pp_u1 (x := 87) (f := 1) (by decide)]
          refine And.intro ⟨rfl, rfl, Nat.le_refl _, Nat.le_refl _⟩ ?_
          have ez9 := rn_u (f := f) (l := l) (B := B) (n := n) (p := p) (k := i) qi (fun z => absurd z.2.2 (Int32.not_le.mpr cz24))
          refine hQ _ _ (by rw [ez9]; exact q7) (by rw [ez9]; exact q8) (by rw [ez9]; exact q3) (by rw [ez9]; show nI (p + i) - nI p = nI i; rw [pk_sub (by omega), show p + i - p = i by omega]) (fun k h7 h3 h6 => ?_) (fun g hg => ?_) qK
          · show upd (D 1) 6 _ k = D0 1 k
            rw [upd_o h6]
            exact qk k h7 h3
          · rw [ud_ne hg]
            exact qD g hg
        · -- 24 not: ¬ l < B (p + i)
          refine And.intro (Wdo_88 hW) ?_
          rw [pp_1 (x := 87) (f := 1) (by decide)]
          refine And.intro (Wdo_88 hW) (Exists.intro _ (And.intro (Wdr_88_0 hW) ?_))
          refine And.intro (Wdo_88 hW) ?_
          rw [pp_1 (x := 87) (f := 1) (by decide)]
          rw [q3]
          refine And.intro (Wdi_89 hW (vi rfl (by omega))) ?_
          rw [nI_clamp (show (p + i) < 2 ^ 31 by omega)]
          rw [pp_1 (x := 87) (f := 2) (by decide)]
          rw [qB]
          refine And.intro (Wdo_88 hW) ?_
          rw [pp_u1 (x := 87) (f := 1) (by decide)]
          refine And.intro (Wdo_88 hW) ?_
          rw [pp_J1 (x := 87) (f := 1) (by decide)]
          refine And.intro (Wdo_88 hW) (Exists.intro _ (And.intro (Wdr_88_0 hW) ?_))
          refine And.intro (Wdo_88 hW) ?_
          rw [pp_1 (x := 87) (f := 1) (by decide)]
          rw [show (ud D 1 7 (((D 1 7) * nI 10) + ((B (p + i)) - f))) 1 3 = D 1 3 from rfl]
          rw [q3]
          refine And.intro (Wdi_89 hW (vi rfl (by omega))) ?_
          rw [nI_clamp (show (p + i) < 2 ^ 31 by omega)]
          rw [pp_1 (x := 87) (f := 2) (by decide)]
          rw [ud_ne (D := D) (f := 1) (g := 2) (by decide)]
          rw [qB]
          refine And.intro (Wdo_88 hW) ?_
          rw [pp_v1 (x := 87) (f := 1) (by decide)]
          refine And.intro rfl ?_
          refine And.intro (Wdo_88 hW) ?_
          rw [pp_1 (x := 87) (f := 1) (by decide)]
          rw [show (ud D 1 7 (((D 1 7) * nI 10) + ((B (p + i)) - f))) 1 3 = D 1 3 from rfl]
          rw [q3]
          refine And.intro (Wdo_88 hW) ?_
          rw [pp_u1 (x := 87) (f := 1) (by decide)]
          show Jj sc d 0 0 (mth 109) (pg P109 6).1 [some (.ref 88), some (.int f), some (.int l)] [] (pp m 87 6 (ud (ud D 1 7 (((D 1 7) * nI 10) + ((B (p + i)) - f))) 1 3 ((nI ((p + i))) + nI 1)) (udJ K 1 8 (((K 1 8) * (lN 32)) + ((((B (p + i)) - f) + nI 1).toInt64))) b 19 E L) 0 0 Q
          refine ih (i + 1) _ _ (by omega) (by omega) ⟨?_, ?_, ?_, fun k h7 h3 => ?_, fun g hg => ?_, fun g hg => ?_, fun j hj => ?_⟩
          · show D 1 7 * nI 10 + (B (p + i) - f) = vaQ f B p (i + 1)
            rw [q7, vaQ_s]
          · show K 1 8 * lN 32 + (B (p + i) - f + nI 1).toInt64 = cdQ f B p (i + 1)
            rw [q8, cdQ_s]
          · show nI (p + i) + nI 1 = nI (p + (i + 1))
            rw [nI_add, Nat.add_assoc]
          · show upd (upd (D 1) 7 _) 3 _ k = D0 1 k
            rw [upd_o h3, upd_o h7]
            exact qk k h7 h3
          · rw [ud_ne hg, ud_ne hg]
            exact qD g hg
          · rw [udJ_ne hg]
            exact qK g hg
          · by_cases ez9 : j = i
            · rw [ez9]; exact ⟨by omega, Int32.not_lt.mp cz17, Int32.not_lt.mp cz24⟩
            · exact qi j (by omega)
theorem D109 {d : Nat} {m : Mm} {Q : Option Value → Mm → Prop} {b : Nat} {E : Nat → Nat → Int32} {L : Nat → Nat → Int64} (hW : Wd m.2.2) (hB2 : LW m.2.2 b) (hdj : b + 19 ≤ 87 ∨ 87 + 6 ≤ b) {B : Nat → Int32} {n p : Nat} {f l : Int32} {D0 : Nat → Nat → Int32} {K0 : Nat → Nat → Int64} (hn : n ≤ 1200) (hp : p ≤ n) (h02 : D0 1 2 = nI n) (h05 : D0 1 5 = nI p) (h0B : D0 2 = B) (h03 : D0 1 3 = nI p) (hQ : ∀ D K, D 1 7 = vaQ f B p (rn f l B n p) → K 1 8 = cdQ f B p (rn f l B n p) → D 1 3 = nI (p + rn f l B n p) → D 1 6 = nI (rn f l B n p) → (∀ k, k ≠ 7 → k ≠ 3 → k ≠ 6 → D 1 k = D0 1 k) → (∀ g, g ≠ 1 → D g = D0 g) → (∀ g, g ≠ 1 → K g = K0 g) → Q none (pp m 87 6 D K b 19 E L))  : Cc d 0 0 109 [.ref 88, .int f, .int l] (pp m 87 6 D0 K0 b 19 E L) Q := by
  refine ent (n := 162) z109 (by decide) rfl (by decide) (Nat.le_of_ble_eq_true rfl) (fun sc => ?_)
  refine And.intro (Wdo_88 hW) ?_
  rw [pp_u1 (x := 87) (f := 1) (by decide)]
  refine And.intro (Wdo_88 hW) ?_
  rw [pp_v1 (x := 87) (f := 1) (by decide)]
  show Jj sc d 0 0 (mth 109) (pg P109 6).1 [some (.ref 88), some (.int f), some (.int l)] [] (pp m 87 6 (ud D0 1 7 (nI 0)) (udJ K0 1 8 (lN 0)) b 19 E L) 0 0 Q
  exact lq109 hW hB2 hdj hn hp h02 h05 h0B hQ (n - p + 1) 0 _ _ (Nat.zero_le _) (by omega) ⟨rfl, rfl, h03, fun k h7 _ => upd_o h7, fun g hg => ud_ne hg, fun g hg => udJ_ne hg, fun j h => absurd h (by omega)⟩
theorem TC_mk {B : Nat → Int32} {n i p : Nat} {D : Nat → Nat → Int32} {K : Nat → Nat → Int64} (hp : plF B n i = p) (h2 : D 2 = B) (h12 : D 1 2 = nI n) (h15 : D 1 5 = nI p) (h14 : D 1 4 = nI (kiP B n p)) (h13 : D 1 3 = nI (nxP B n p)) (hw : kiP B n p = 2 → D 1 6 = nI (wlF B n p) ∧ K 1 8 = cdQ (nI 97) B p (wlF B n p)) (hd : kiP B n p = 3 → D 1 7 = vaQ (nI 48) B p (dlF B n p)) (hs : kiP B n p = 4 → D 1 7 = B p) (h11 : D 1 1 = nI 0) : TC B n i D K := by
  subst hp
  exact ⟨h2, h12, h15, h14, h13, hw, hd, hs, h11⟩
theorem ki_e {B : Nat → Int32} {n p : Nat} (h : n ≤ p) : kiP B n p = 0 ∧ nxP B n p = p := ⟨if_pos h, if_pos h⟩
theorem ki_w {B : Nat → Int32} {n p : Nat} (h : ¬ n ≤ p) (hl : ltr (B p)) : kiP B n p = (if 8 < wlF B n p then 1 else 2) ∧ nxP B n p = p + wlF B n p := by
  unfold kiP nxP
  rw [if_neg h, if_pos hl, if_neg h, if_pos hl]
  exact ⟨rfl, rfl⟩
theorem ki_d {B : Nat → Int32} {n p : Nat} (h : ¬ n ≤ p) (hl : ¬ ltr (B p)) (hd : dgt (B p)) : kiP B n p = (if 3 < dlF B n p then 1 else 3) ∧ nxP B n p = p + dlF B n p := by
  unfold kiP nxP
  rw [if_neg h, if_neg hl, if_pos hd, if_neg h, if_neg hl, if_pos hd]
  exact ⟨rfl, rfl⟩
theorem ki_s {B : Nat → Int32} {n p : Nat} (h : ¬ n ≤ p) (hl : ¬ ltr (B p)) (hd : ¬ dgt (B p)) : kiP B n p = (if sgn (B p) then 4 else 1) ∧ nxP B n p = p + 1 := by
  unfold kiP nxP
  rw [if_neg h, if_neg hl, if_neg hd, if_neg h, if_neg hl, if_neg hd]
  exact ⟨rfl, rfl⟩
theorem lq108 {sc : Nat × (Nat → Int32)} {d : Nat} {m : Mm} {Q : Option Value → Mm → Prop} {b : Nat} {E : Nat → Nat → Int32} {L : Nat → Nat → Int64} (hW : Wd m.2.2) (hB2 : LW m.2.2 b) (hdj : b + 19 ≤ 87 ∨ 87 + 6 ≤ b) {B : Nat → Int32} {n i : Nat} {D0 : Nat → Nat → Int32} {K0 : Nat → Nat → Int64} (hd : 1 ≤ d) (hn : n ≤ 1200) (hi : i ≤ n) (h02 : D0 1 2 = nI n) (h0B : D0 2 = B) (h01 : D0 1 1 = nI 0) (hQ : ∀ D K, TC B n i D K → D 1 9 = D0 1 5 → D 1 1 = D0 1 1 → (∀ g, g ≠ 1 → D g = D0 g) → (∀ g, g ≠ 1 → K g = K0 g) → Q none (pp m 87 6 D K b 19 E L))  : ∀ (j j9 : Nat) (D : Nat → Nat → Int32), j9 ≤ (n - i) → (n - i) + 1 ≤ j9 + j → (D 1 3 = nI (i + j9) ∧ (∀ k, k ≠ 3 → D 1 k = D0 1 k) ∧ (∀ g, g ≠ 1 → D g = D0 g) ∧ ∀ j, j < j9 → inb (nI 32) (nI 32) B n (i + j)) → Jj sc d 0 0 (mth 108) (pg P108 0).1 [some (.ref 88), none] [] (pp m 87 6 D K0 b 19 E L) 0 0 Q := by
  intro j
  induction j with
  | zero => intro j9 D h1 h2 hall; omega
  | succ j ih =>
    intro j9 D h1 h2 hall
    refine J_w z108 (i := 0) (by decide) 246 ?_
    obtain ⟨q3, qk, qD, qi⟩ := hall
    have q2 : D 1 2 = nI n := (qk 2 (by decide)).trans h02
    have qB : D 2 = B := (qD 2 (by decide)).trans h0B
    refine And.intro (Wdo_88 hW) ?_
    rw [pp_1 (x := 87) (f := 1) (by decide)]
    rw [q3]
    refine And.intro (Wdo_88 hW) ?_
    rw [pp_1 (x := 87) (f := 1) (by decide)]
    rw [q2]
    refine And.intro (fun cz4 => ?_) (fun cz4 => ?_)
    · -- 4 taken: nI n ≤ nI ((i + j9))
      have kz4 : n ≤ (i + j9) := kle (a := n) (b := (i + j9)) rfl rfl (by omega) (by omega) cz4
      refine And.intro (Wdo_88 hW) ?_
      rw [pp_1 (x := 87) (f := 1) (by decide)]
      refine And.intro (Wdo_88 hW) ?_
      rw [pp_u1 (x := 87) (f := 1) (by decide)]
      refine And.intro (Wdo_88 hW) ?_
      rw [pp_1 (x := 87) (f := 1) (by decide)]
      rw [show (ud D 1 9 (D 1 5)) 1 3 = D 1 3 from rfl]
      rw [q3]
      refine And.intro (Wdo_88 hW) ?_
      rw [pp_u1 (x := 87) (f := 1) (by decide)]
      refine And.intro (Wdo_88 hW) ?_
      rw [pp_u1 (x := 87) (f := 1) (by decide)]
      refine And.intro (Wdo_88 hW) ?_
      rw [pp_1 (x := 87) (f := 1) (by decide)]
      rw [show (ud (ud (ud D 1 9 (D 1 5)) 1 5 (nI ((i + j9)))) 1 6 (nI 0)) 1 3 = (ud (ud D 1 9 (D 1 5)) 1 5 (nI ((i + j9)))) 1 3 from rfl]
      rw [show (ud (ud D 1 9 (D 1 5)) 1 5 (nI ((i + j9)))) 1 3 = (ud D 1 9 (D 1 5)) 1 3 from rfl]
      rw [show (ud D 1 9 (D 1 5)) 1 3 = D 1 3 from rfl]
      rw [q3]
      refine And.intro (Wdo_88 hW) ?_
      rw [pp_1 (x := 87) (f := 1) (by decide)]
      rw [show (ud (ud (ud D 1 9 (D 1 5)) 1 5 (nI ((i + j9)))) 1 6 (nI 0)) 1 2 = (ud (ud D 1 9 (D 1 5)) 1 5 (nI ((i + j9)))) 1 2 from rfl]
      rw [show (ud (ud D 1 9 (D 1 5)) 1 5 (nI ((i + j9)))) 1 2 = (ud D 1 9 (D 1 5)) 1 2 from rfl]
      rw [show (ud D 1 9 (D 1 5)) 1 2 = D 1 2 from rfl]
      rw [q2]
      refine And.intro (fun cz34 => ?_) (fun cz34 => ?_)
      · -- 34 taken: nI n ≤ nI ((i + j9))
        have kz34 : n ≤ (i + j9) := kle (a := n) (b := (i + j9)) rfl rfl (by omega) (by omega) cz34
        refine And.intro (Wdo_88 hW) ?_
        rw [pp_1 (x := 87) (f := 1) (by decide)]
        rw [show (ud (ud (ud D 1 9 (D 1 5)) 1 5 (nI ((i + j9)))) 1 6 (nI 0)) 1 3 = (ud (ud D 1 9 (D 1 5)) 1 5 (nI ((i + j9)))) 1 3 from rfl]
        rw [show (ud (ud D 1 9 (D 1 5)) 1 5 (nI ((i + j9)))) 1 3 = (ud D 1 9 (D 1 5)) 1 3 from rfl]
        rw [show (ud D 1 9 (D 1 5)) 1 3 = D 1 3 from rfl]
        rw [q3]
        refine And.intro (Wdo_88 hW) ?_
        rw [pp_1 (x := 87) (f := 1) (by decide)]
        rw [show (ud (ud (ud D 1 9 (D 1 5)) 1 5 (nI ((i + j9)))) 1 6 (nI 0)) 1 2 = (ud (ud D 1 9 (D 1 5)) 1 5 (nI ((i + j9)))) 1 2 from rfl]
        rw [show (ud (ud D 1 9 (D 1 5)) 1 5 (nI ((i + j9)))) 1 2 = (ud D 1 9 (D 1 5)) 1 2 from rfl]
        rw [show (ud D 1 9 (D 1 5)) 1 2 = D 1 2 from rfl]
        rw [q2]
        refine And.intro (fun cz47 => ?_) (fun cz47 => ?_)
        · -- 47 taken: nI ((i + j9)) < nI n
          have kz47 : (i + j9) < n := klt (a := (i + j9)) (b := n) rfl rfl (by omega) (by omega) cz47
          omega
        · -- 47 not: ¬ nI ((i + j9)) < nI n
          have kz47 : n ≤ (i + j9) := knlt (a := (i + j9)) (b := n) rfl rfl (by omega) (by omega) cz47
          refine And.intro (Wdo_88 hW) ?_
          rw [pp_u1 (x := 87) (f := 1) (by decide)]
          refine And.intro ⟨rfl, rfl, Nat.le_refl _, Nat.le_refl _⟩ ?_
          have epl : plF B n i = i + j9 := by show i + rn (nI 32) (nI 32) B n i = i + j9; rw [rn_u (k := j9) qi (fun z => absurd z.1 (by omega))]
          have kk := ki_e (B := B) (n := n) (p := i + j9) (by omega)
          exact hQ _ _ (TC_mk epl qB q2 rfl (by rw [kk.1]; rfl) (by rw [kk.2]; exact q3) (by rw [kk.1]; intro z; exact absurd z (by decide)) (by rw [kk.1]; intro z; exact absurd z (by decide)) (by rw [kk.1]; intro z; exact absurd z (by decide)) ((qk 1 (by decide)).trans h01)) (qk 5 (by decide)) (qk 1 (by decide)) (fun g hg => by rw [ud_ne hg, ud_ne hg, ud_ne hg, ud_ne hg]; exact qD g hg) (fun g hg => rfl)
      · -- 34 not: ¬ nI n ≤ nI ((i + j9))
        have kz34 : (i + j9) < n := knle (a := n) (b := (i + j9)) rfl rfl (by omega) (by omega) cz34
        omega
    · -- 4 not: ¬ nI n ≤ nI ((i + j9))
      have kz4 : (i + j9) < n := knle (a := n) (b := (i + j9)) rfl rfl (by omega) (by omega) cz4
      refine And.intro (Wdo_88 hW) (Exists.intro _ (And.intro (Wdr_88_0 hW) ?_))
      refine And.intro (Wdo_88 hW) ?_
      rw [pp_1 (x := 87) (f := 1) (by decide)]
      rw [q3]
      refine And.intro (Wdi_89 hW (vi rfl (by omega))) ?_
      rw [nI_clamp (show (i + j9) < 2 ^ 31 by omega)]
      rw [pp_1 (x := 87) (f := 2) (by decide)]
      rw [qB]
      refine And.intro (fun cz11 => ?_) (fun cz11 => ?_)
      · -- 11 taken: ¬ B (i + j9) = nI 32
        refine And.intro (Wdo_88 hW) ?_
        rw [pp_1 (x := 87) (f := 1) (by decide)]
        refine And.intro (Wdo_88 hW) ?_
        rw [pp_u1 (x := 87) (f := 1) (by decide)]
        refine And.intro (Wdo_88 hW) ?_
        rw [pp_1 (x := 87) (f := 1) (by decide)]
        rw [show (ud D 1 9 (D 1 5)) 1 3 = D 1 3 from rfl]
        rw [q3]
        refine And.intro (Wdo_88 hW) ?_
        rw [pp_u1 (x := 87) (f := 1) (by decide)]
        refine And.intro (Wdo_88 hW) ?_
        rw [pp_u1 (x := 87) (f := 1) (by decide)]
        refine And.intro (Wdo_88 hW) ?_
        rw [pp_1 (x := 87) (f := 1) (by decide)]
        rw [show (ud (ud (ud D 1 9 (D 1 5)) 1 5 (nI ((i + j9)))) 1 6 (nI 0)) 1 3 = (ud (ud D 1 9 (D 1 5)) 1 5 (nI ((i + j9)))) 1 3 from rfl]
        rw [show (ud (ud D 1 9 (D 1 5)) 1 5 (nI ((i + j9)))) 1 3 = (ud D 1 9 (D 1 5)) 1 3 from rfl]
        rw [show (ud D 1 9 (D 1 5)) 1 3 = D 1 3 from rfl]
        rw [q3]
        refine And.intro (Wdo_88 hW) ?_
        rw [pp_1 (x := 87) (f := 1) (by decide)]
        rw [show (ud (ud (ud D 1 9 (D 1 5)) 1 5 (nI ((i + j9)))) 1 6 (nI 0)) 1 2 = (ud (ud D 1 9 (D 1 5)) 1 5 (nI ((i + j9)))) 1 2 from rfl]
        rw [show (ud (ud D 1 9 (D 1 5)) 1 5 (nI ((i + j9)))) 1 2 = (ud D 1 9 (D 1 5)) 1 2 from rfl]
        rw [show (ud D 1 9 (D 1 5)) 1 2 = D 1 2 from rfl]
        rw [q2]
        refine And.intro (fun cz34 => ?_) (fun cz34 => ?_)
        · -- 34 taken: nI n ≤ nI ((i + j9))
          have kz34 : n ≤ (i + j9) := kle (a := n) (b := (i + j9)) rfl rfl (by omega) (by omega) cz34
          refine And.intro (Wdo_88 hW) ?_
          rw [pp_1 (x := 87) (f := 1) (by decide)]
          rw [show (ud (ud (ud D 1 9 (D 1 5)) 1 5 (nI ((i + j9)))) 1 6 (nI 0)) 1 3 = (ud (ud D 1 9 (D 1 5)) 1 5 (nI ((i + j9)))) 1 3 from rfl]
          rw [show (ud (ud D 1 9 (D 1 5)) 1 5 (nI ((i + j9)))) 1 3 = (ud D 1 9 (D 1 5)) 1 3 from rfl]
          rw [show (ud D 1 9 (D 1 5)) 1 3 = D 1 3 from rfl]
          rw [q3]
          refine And.intro (Wdo_88 hW) ?_
          rw [pp_1 (x := 87) (f := 1) (by decide)]
          rw [show (ud (ud (ud D 1 9 (D 1 5)) 1 5 (nI ((i + j9)))) 1 6 (nI 0)) 1 2 = (ud (ud D 1 9 (D 1 5)) 1 5 (nI ((i + j9)))) 1 2 from rfl]
          rw [show (ud (ud D 1 9 (D 1 5)) 1 5 (nI ((i + j9)))) 1 2 = (ud D 1 9 (D 1 5)) 1 2 from rfl]
          rw [show (ud D 1 9 (D 1 5)) 1 2 = D 1 2 from rfl]
          rw [q2]
          refine And.intro (fun cz47 => ?_) (fun cz47 => ?_)
          · -- 47 taken: nI ((i + j9)) < nI n
            have kz47 : (i + j9) < n := klt (a := (i + j9)) (b := n) rfl rfl (by omega) (by omega) cz47
            omega
          · -- 47 not: ¬ nI ((i + j9)) < nI n
            have kz47 : n ≤ (i + j9) := knlt (a := (i + j9)) (b := n) rfl rfl (by omega) (by omega) cz47
            refine And.intro (Wdo_88 hW) ?_
            rw [pp_u1 (x := 87) (f := 1) (by decide)]
            refine And.intro ⟨rfl, rfl, Nat.le_refl _, Nat.le_refl _⟩ ?_
            have epl : plF B n i = i + j9 := by show i + rn (nI 32) (nI 32) B n i = i + j9; rw [rn_u (k := j9) qi (fun z => cz11 (Int32.le_antisymm z.2.2 z.2.1))]
            have kk := ki_e (B := B) (n := n) (p := i + j9) (by omega)
            exact hQ _ _ (TC_mk epl qB q2 rfl (by rw [kk.1]; rfl) (by rw [kk.2]; exact q3) (by rw [kk.1]; intro z; exact absurd z (by decide)) (by rw [kk.1]; intro z; exact absurd z (by decide)) (by rw [kk.1]; intro z; exact absurd z (by decide)) ((qk 1 (by decide)).trans h01)) (qk 5 (by decide)) (qk 1 (by decide)) (fun g hg => by rw [ud_ne hg, ud_ne hg, ud_ne hg, ud_ne hg]; exact qD g hg) (fun g hg => rfl)
        · -- 34 not: ¬ nI n ≤ nI ((i + j9))
          have kz34 : (i + j9) < n := knle (a := n) (b := (i + j9)) rfl rfl (by omega) (by omega) cz34
          refine And.intro (Wdo_88 hW) (Exists.intro _ (And.intro (Wdr_88_0 hW) ?_))
          refine And.intro (Wdo_88 hW) ?_
          rw [pp_1 (x := 87) (f := 1) (by decide)]
          rw [show (ud (ud (ud D 1 9 (D 1 5)) 1 5 (nI ((i + j9)))) 1 6 (nI 0)) 1 3 = (ud (ud D 1 9 (D 1 5)) 1 5 (nI ((i + j9)))) 1 3 from rfl]
          rw [show (ud (ud D 1 9 (D 1 5)) 1 5 (nI ((i + j9)))) 1 3 = (ud D 1 9 (D 1 5)) 1 3 from rfl]
          rw [show (ud D 1 9 (D 1 5)) 1 3 = D 1 3 from rfl]
          rw [q3]
          refine And.intro (Wdi_89 hW (vi rfl (by omega))) ?_
          rw [nI_clamp (show (i + j9) < 2 ^ 31 by omega)]
          rw [pp_1 (x := 87) (f := 2) (by decide)]
          rw [ud_ne (D := (ud (ud D 1 9 (D 1 5)) 1 5 (nI ((i + j9))))) (f := 1) (g := 2) (by decide)]
          rw [ud_ne (D := (ud D 1 9 (D 1 5))) (f := 1) (g := 2) (by decide)]
          rw [ud_ne (D := D) (f := 1) (g := 2) (by decide)]
          rw [qB]
          refine And.intro (Wdo_88 hW) ?_
          rw [pp_1 (x := 87) (f := 1) (by decide)]
          rw [show (ud (ud (ud D 1 9 (D 1 5)) 1 5 (nI ((i + j9)))) 1 6 (nI 0)) 1 3 = (ud (ud D 1 9 (D 1 5)) 1 5 (nI ((i + j9)))) 1 3 from rfl]
          rw [show (ud (ud D 1 9 (D 1 5)) 1 5 (nI ((i + j9)))) 1 3 = (ud D 1 9 (D 1 5)) 1 3 from rfl]
          rw [show (ud D 1 9 (D 1 5)) 1 3 = D 1 3 from rfl]
          rw [q3]
          refine And.intro (Wdo_88 hW) ?_
          rw [pp_1 (x := 87) (f := 1) (by decide)]
          rw [show (ud (ud (ud D 1 9 (D 1 5)) 1 5 (nI ((i + j9)))) 1 6 (nI 0)) 1 2 = (ud (ud D 1 9 (D 1 5)) 1 5 (nI ((i + j9)))) 1 2 from rfl]
          rw [show (ud (ud D 1 9 (D 1 5)) 1 5 (nI ((i + j9)))) 1 2 = (ud D 1 9 (D 1 5)) 1 2 from rfl]
          rw [show (ud D 1 9 (D 1 5)) 1 2 = D 1 2 from rfl]
          rw [q2]
          refine And.intro (fun cz47 => ?_) (fun cz47 => ?_)
          · -- 47 taken: nI ((i + j9)) < nI n
            have kz47 : (i + j9) < n := klt (a := (i + j9)) (b := n) rfl rfl (by omega) (by omega) cz47
            refine And.intro (fun cz54 => ?_) (fun cz54 => ?_)
            · -- 54 taken: B (i + j9) < nI 97
              refine And.intro (fun cz74 => ?_) (fun cz74 => ?_)
              · -- 74 taken: B (i + j9) < nI 48
                refine And.intro (fun cz95 => ?_) (fun cz95 => ?_)
                · -- 95 taken: B (i + j9) = nI 59
                  refine And.intro (Wdo_88 hW) ?_
                  rw [pp_u1 (x := 87) (f := 1) (by decide)]
                  refine And.intro (Wdo_88 hW) ?_
                  rw [pp_u1 (x := 87) (f := 1) (by decide)]
                  refine And.intro rfl ?_
                  refine And.intro (Wdo_88 hW) ?_
                  rw [pp_1 (x := 87) (f := 1) (by decide)]
                  rw [show (ud (ud (ud (ud (ud D 1 9 (D 1 5)) 1 5 (nI ((i + j9)))) 1 6 (nI 0)) 1 4 (nI 4)) 1 7 (B (i + j9))) 1 3 = (ud (ud (ud (ud D 1 9 (D 1 5)) 1 5 (nI ((i + j9)))) 1 6 (nI 0)) 1 4 (nI 4)) 1 3 from rfl]
                  rw [show (ud (ud (ud (ud D 1 9 (D 1 5)) 1 5 (nI ((i + j9)))) 1 6 (nI 0)) 1 4 (nI 4)) 1 3 = (ud (ud (ud D 1 9 (D 1 5)) 1 5 (nI ((i + j9)))) 1 6 (nI 0)) 1 3 from rfl]
                  rw [show (ud (ud (ud D 1 9 (D 1 5)) 1 5 (nI ((i + j9)))) 1 6 (nI 0)) 1 3 = (ud (ud D 1 9 (D 1 5)) 1 5 (nI ((i + j9)))) 1 3 from rfl]
                  rw [show (ud (ud D 1 9 (D 1 5)) 1 5 (nI ((i + j9)))) 1 3 = (ud D 1 9 (D 1 5)) 1 3 from rfl]
                  rw [show (ud D 1 9 (D 1 5)) 1 3 = D 1 3 from rfl]
                  rw [q3]
                  refine And.intro (Wdo_88 hW) ?_
                  rw [pp_u1 (x := 87) (f := 1) (by decide)]
                  refine And.intro ⟨rfl, rfl, Nat.le_refl _, Nat.le_refl _⟩ ?_
                  have epl : plF B n i = i + j9 := by show i + rn (nI 32) (nI 32) B n i = i + j9; rw [rn_u (k := j9) qi (fun z => cz11 (Int32.le_antisymm z.2.2 z.2.1))]
                  have kk := ki_s (B := B) (n := n) (p := i + j9) (by omega) (fun z => absurd z.1 (Int32.not_le.mpr cz54)) (fun z => absurd z.1 (Int32.not_le.mpr cz74))
                  rw [if_pos (Or.inl cz95)] at kk
                  exact hQ _ _ (TC_mk epl qB q2 rfl (by rw [kk.1]; rfl) (by rw [kk.2]; show nI (i + j9) + nI 1 = nI (i + j9 + 1); exact nI_add _ 1) (by rw [kk.1]; intro z; exact absurd z (by decide)) (by rw [kk.1]; intro z; exact absurd z (by decide)) (by rw [kk.1]; intro _; rfl) ((qk 1 (by decide)).trans h01)) (qk 5 (by decide)) (qk 1 (by decide)) (fun g hg => by rw [ud_ne hg, ud_ne hg, ud_ne hg, ud_ne hg, ud_ne hg, ud_ne hg]; exact qD g hg) (fun g hg => rfl)
                · -- 95 not: ¬ B (i + j9) = nI 59
                  refine And.intro (fun cz98 => ?_) (fun cz98 => ?_)
                  · -- 98 taken: ¬ B (i + j9) = nI 44
                    refine And.intro (Wdo_88 hW) ?_
                    rw [pp_u1 (x := 87) (f := 1) (by decide)]
                    refine And.intro (Wdo_88 hW) ?_
                    rw [pp_u1 (x := 87) (f := 1) (by decide)]
                    refine And.intro rfl ?_
                    refine And.intro (Wdo_88 hW) ?_
                    rw [pp_1 (x := 87) (f := 1) (by decide)]
                    rw [show (ud (ud (ud (ud (ud D 1 9 (D 1 5)) 1 5 (nI ((i + j9)))) 1 6 (nI 0)) 1 4 (nI 1)) 1 7 (B (i + j9))) 1 3 = (ud (ud (ud (ud D 1 9 (D 1 5)) 1 5 (nI ((i + j9)))) 1 6 (nI 0)) 1 4 (nI 1)) 1 3 from rfl]
                    rw [show (ud (ud (ud (ud D 1 9 (D 1 5)) 1 5 (nI ((i + j9)))) 1 6 (nI 0)) 1 4 (nI 1)) 1 3 = (ud (ud (ud D 1 9 (D 1 5)) 1 5 (nI ((i + j9)))) 1 6 (nI 0)) 1 3 from rfl]
                    rw [show (ud (ud (ud D 1 9 (D 1 5)) 1 5 (nI ((i + j9)))) 1 6 (nI 0)) 1 3 = (ud (ud D 1 9 (D 1 5)) 1 5 (nI ((i + j9)))) 1 3 from rfl]
                    rw [show (ud (ud D 1 9 (D 1 5)) 1 5 (nI ((i + j9)))) 1 3 = (ud D 1 9 (D 1 5)) 1 3 from rfl]
                    rw [show (ud D 1 9 (D 1 5)) 1 3 = D 1 3 from rfl]
                    rw [q3]
                    refine And.intro (Wdo_88 hW) ?_
                    rw [pp_u1 (x := 87) (f := 1) (by decide)]
                    refine And.intro ⟨rfl, rfl, Nat.le_refl _, Nat.le_refl _⟩ ?_
                    have epl : plF B n i = i + j9 := by show i + rn (nI 32) (nI 32) B n i = i + j9; rw [rn_u (k := j9) qi (fun z => cz11 (Int32.le_antisymm z.2.2 z.2.1))]
                    have kk := ki_s (B := B) (n := n) (p := i + j9) (by omega) (fun z => absurd z.1 (Int32.not_le.mpr cz54)) (fun z => absurd z.1 (Int32.not_le.mpr cz74))
                    rw [if_neg (fun z => z.elim cz95 cz98)] at kk
                    exact hQ _ _ (TC_mk epl qB q2 rfl (by rw [kk.1]; rfl) (by rw [kk.2]; show nI (i + j9) + nI 1 = nI (i + j9 + 1); exact nI_add _ 1) (by rw [kk.1]; intro z; exact absurd z (by decide)) (by rw [kk.1]; intro z; exact absurd z (by decide)) (by rw [kk.1]; intro z; exact absurd z (by decide)) ((qk 1 (by decide)).trans h01)) (qk 5 (by decide)) (qk 1 (by decide)) (fun g hg => by rw [ud_ne hg, ud_ne hg, ud_ne hg, ud_ne hg, ud_ne hg, ud_ne hg]; exact qD g hg) (fun g hg => rfl)
                  · -- 98 not: B (i + j9) = nI 44
                    refine And.intro (Wdo_88 hW) ?_
                    rw [pp_u1 (x := 87) (f := 1) (by decide)]
                    refine And.intro (Wdo_88 hW) ?_
                    rw [pp_u1 (x := 87) (f := 1) (by decide)]
                    refine And.intro rfl ?_
                    refine And.intro (Wdo_88 hW) ?_
                    rw [pp_1 (x := 87) (f := 1) (by decide)]
                    rw [show (ud (ud (ud (ud (ud D 1 9 (D 1 5)) 1 5 (nI ((i + j9)))) 1 6 (nI 0)) 1 4 (nI 4)) 1 7 (B (i + j9))) 1 3 = (ud (ud (ud (ud D 1 9 (D 1 5)) 1 5 (nI ((i + j9)))) 1 6 (nI 0)) 1 4 (nI 4)) 1 3 from rfl]
                    rw [show (ud (ud (ud (ud D 1 9 (D 1 5)) 1 5 (nI ((i + j9)))) 1 6 (nI 0)) 1 4 (nI 4)) 1 3 = (ud (ud (ud D 1 9 (D 1 5)) 1 5 (nI ((i + j9)))) 1 6 (nI 0)) 1 3 from rfl]
                    rw [show (ud (ud (ud D 1 9 (D 1 5)) 1 5 (nI ((i + j9)))) 1 6 (nI 0)) 1 3 = (ud (ud D 1 9 (D 1 5)) 1 5 (nI ((i + j9)))) 1 3 from rfl]
                    rw [show (ud (ud D 1 9 (D 1 5)) 1 5 (nI ((i + j9)))) 1 3 = (ud D 1 9 (D 1 5)) 1 3 from rfl]
                    rw [show (ud D 1 9 (D 1 5)) 1 3 = D 1 3 from rfl]
                    rw [q3]
                    refine And.intro (Wdo_88 hW) ?_
                    rw [pp_u1 (x := 87) (f := 1) (by decide)]
                    refine And.intro ⟨rfl, rfl, Nat.le_refl _, Nat.le_refl _⟩ ?_
                    have epl : plF B n i = i + j9 := by show i + rn (nI 32) (nI 32) B n i = i + j9; rw [rn_u (k := j9) qi (fun z => cz11 (Int32.le_antisymm z.2.2 z.2.1))]
                    have kk := ki_s (B := B) (n := n) (p := i + j9) (by omega) (fun z => absurd z.1 (Int32.not_le.mpr cz54)) (fun z => absurd z.1 (Int32.not_le.mpr cz74))
                    rw [if_pos (Or.inr cz98)] at kk
                    exact hQ _ _ (TC_mk epl qB q2 rfl (by rw [kk.1]; rfl) (by rw [kk.2]; show nI (i + j9) + nI 1 = nI (i + j9 + 1); exact nI_add _ 1) (by rw [kk.1]; intro z; exact absurd z (by decide)) (by rw [kk.1]; intro z; exact absurd z (by decide)) (by rw [kk.1]; intro _; rfl) ((qk 1 (by decide)).trans h01)) (qk 5 (by decide)) (qk 1 (by decide)) (fun g hg => by rw [ud_ne hg, ud_ne hg, ud_ne hg, ud_ne hg, ud_ne hg, ud_ne hg]; exact qD g hg) (fun g hg => rfl)
              · -- 74 not: ¬ B (i + j9) < nI 48
                refine And.intro (fun cz77 => ?_) (fun cz77 => ?_)
                · -- 77 taken: nI 57 < B (i + j9)
                  refine And.intro (fun cz95 => ?_) (fun cz95 => ?_)
                  · -- 95 taken: B (i + j9) = nI 59
                    refine And.intro (Wdo_88 hW) ?_
                    rw [pp_u1 (x := 87) (f := 1) (by decide)]
                    refine And.intro (Wdo_88 hW) ?_
                    rw [pp_u1 (x := 87) (f := 1) (by decide)]
                    refine And.intro rfl ?_
                    refine And.intro (Wdo_88 hW) ?_
                    rw [pp_1 (x := 87) (f := 1) (by decide)]
                    rw [show (ud (ud (ud (ud (ud D 1 9 (D 1 5)) 1 5 (nI ((i + j9)))) 1 6 (nI 0)) 1 4 (nI 4)) 1 7 (B (i + j9))) 1 3 = (ud (ud (ud (ud D 1 9 (D 1 5)) 1 5 (nI ((i + j9)))) 1 6 (nI 0)) 1 4 (nI 4)) 1 3 from rfl]
                    rw [show (ud (ud (ud (ud D 1 9 (D 1 5)) 1 5 (nI ((i + j9)))) 1 6 (nI 0)) 1 4 (nI 4)) 1 3 = (ud (ud (ud D 1 9 (D 1 5)) 1 5 (nI ((i + j9)))) 1 6 (nI 0)) 1 3 from rfl]
                    rw [show (ud (ud (ud D 1 9 (D 1 5)) 1 5 (nI ((i + j9)))) 1 6 (nI 0)) 1 3 = (ud (ud D 1 9 (D 1 5)) 1 5 (nI ((i + j9)))) 1 3 from rfl]
                    rw [show (ud (ud D 1 9 (D 1 5)) 1 5 (nI ((i + j9)))) 1 3 = (ud D 1 9 (D 1 5)) 1 3 from rfl]
                    rw [show (ud D 1 9 (D 1 5)) 1 3 = D 1 3 from rfl]
                    rw [q3]
                    refine And.intro (Wdo_88 hW) ?_
                    rw [pp_u1 (x := 87) (f := 1) (by decide)]
                    refine And.intro ⟨rfl, rfl, Nat.le_refl _, Nat.le_refl _⟩ ?_
                    have epl : plF B n i = i + j9 := by show i + rn (nI 32) (nI 32) B n i = i + j9; rw [rn_u (k := j9) qi (fun z => cz11 (Int32.le_antisymm z.2.2 z.2.1))]
                    have kk := ki_s (B := B) (n := n) (p := i + j9) (by omega) (fun z => absurd z.1 (Int32.not_le.mpr cz54)) (fun z => absurd z.2 (Int32.not_le.mpr cz77))
                    rw [if_pos (Or.inl cz95)] at kk
                    exact hQ _ _ (TC_mk epl qB q2 rfl (by rw [kk.1]; rfl) (by rw [kk.2]; show nI (i + j9) + nI 1 = nI (i + j9 + 1); exact nI_add _ 1) (by rw [kk.1]; intro z; exact absurd z (by decide)) (by rw [kk.1]; intro z; exact absurd z (by decide)) (by rw [kk.1]; intro _; rfl) ((qk 1 (by decide)).trans h01)) (qk 5 (by decide)) (qk 1 (by decide)) (fun g hg => by rw [ud_ne hg, ud_ne hg, ud_ne hg, ud_ne hg, ud_ne hg, ud_ne hg]; exact qD g hg) (fun g hg => rfl)
                  · -- 95 not: ¬ B (i + j9) = nI 59
                    refine And.intro (fun cz98 => ?_) (fun cz98 => ?_)
                    · -- 98 taken: ¬ B (i + j9) = nI 44
                      refine And.intro (Wdo_88 hW) ?_
                      rw [pp_u1 (x := 87) (f := 1) (by decide)]
                      refine And.intro (Wdo_88 hW) ?_
                      rw [pp_u1 (x := 87) (f := 1) (by decide)]
                      refine And.intro rfl ?_
                      refine And.intro (Wdo_88 hW) ?_
                      rw [pp_1 (x := 87) (f := 1) (by decide)]
                      rw [show (ud (ud (ud (ud (ud D 1 9 (D 1 5)) 1 5 (nI ((i + j9)))) 1 6 (nI 0)) 1 4 (nI 1)) 1 7 (B (i + j9))) 1 3 = (ud (ud (ud (ud D 1 9 (D 1 5)) 1 5 (nI ((i + j9)))) 1 6 (nI 0)) 1 4 (nI 1)) 1 3 from rfl]
                      rw [show (ud (ud (ud (ud D 1 9 (D 1 5)) 1 5 (nI ((i + j9)))) 1 6 (nI 0)) 1 4 (nI 1)) 1 3 = (ud (ud (ud D 1 9 (D 1 5)) 1 5 (nI ((i + j9)))) 1 6 (nI 0)) 1 3 from rfl]
                      rw [show (ud (ud (ud D 1 9 (D 1 5)) 1 5 (nI ((i + j9)))) 1 6 (nI 0)) 1 3 = (ud (ud D 1 9 (D 1 5)) 1 5 (nI ((i + j9)))) 1 3 from rfl]
                      rw [show (ud (ud D 1 9 (D 1 5)) 1 5 (nI ((i + j9)))) 1 3 = (ud D 1 9 (D 1 5)) 1 3 from rfl]
                      rw [show (ud D 1 9 (D 1 5)) 1 3 = D 1 3 from rfl]
                      rw [q3]
                      refine And.intro (Wdo_88 hW) ?_
                      rw [pp_u1 (x := 87) (f := 1) (by decide)]
                      refine And.intro ⟨rfl, rfl, Nat.le_refl _, Nat.le_refl _⟩ ?_
                      have epl : plF B n i = i + j9 := by show i + rn (nI 32) (nI 32) B n i = i + j9; rw [rn_u (k := j9) qi (fun z => cz11 (Int32.le_antisymm z.2.2 z.2.1))]
                      have kk := ki_s (B := B) (n := n) (p := i + j9) (by omega) (fun z => absurd z.1 (Int32.not_le.mpr cz54)) (fun z => absurd z.2 (Int32.not_le.mpr cz77))
                      rw [if_neg (fun z => z.elim cz95 cz98)] at kk
                      exact hQ _ _ (TC_mk epl qB q2 rfl (by rw [kk.1]; rfl) (by rw [kk.2]; show nI (i + j9) + nI 1 = nI (i + j9 + 1); exact nI_add _ 1) (by rw [kk.1]; intro z; exact absurd z (by decide)) (by rw [kk.1]; intro z; exact absurd z (by decide)) (by rw [kk.1]; intro z; exact absurd z (by decide)) ((qk 1 (by decide)).trans h01)) (qk 5 (by decide)) (qk 1 (by decide)) (fun g hg => by rw [ud_ne hg, ud_ne hg, ud_ne hg, ud_ne hg, ud_ne hg, ud_ne hg]; exact qD g hg) (fun g hg => rfl)
                    · -- 98 not: B (i + j9) = nI 44
                      refine And.intro (Wdo_88 hW) ?_
                      rw [pp_u1 (x := 87) (f := 1) (by decide)]
                      refine And.intro (Wdo_88 hW) ?_
                      rw [pp_u1 (x := 87) (f := 1) (by decide)]
                      refine And.intro rfl ?_
                      refine And.intro (Wdo_88 hW) ?_
                      rw [pp_1 (x := 87) (f := 1) (by decide)]
                      rw [show (ud (ud (ud (ud (ud D 1 9 (D 1 5)) 1 5 (nI ((i + j9)))) 1 6 (nI 0)) 1 4 (nI 4)) 1 7 (B (i + j9))) 1 3 = (ud (ud (ud (ud D 1 9 (D 1 5)) 1 5 (nI ((i + j9)))) 1 6 (nI 0)) 1 4 (nI 4)) 1 3 from rfl]
                      rw [show (ud (ud (ud (ud D 1 9 (D 1 5)) 1 5 (nI ((i + j9)))) 1 6 (nI 0)) 1 4 (nI 4)) 1 3 = (ud (ud (ud D 1 9 (D 1 5)) 1 5 (nI ((i + j9)))) 1 6 (nI 0)) 1 3 from rfl]
                      rw [show (ud (ud (ud D 1 9 (D 1 5)) 1 5 (nI ((i + j9)))) 1 6 (nI 0)) 1 3 = (ud (ud D 1 9 (D 1 5)) 1 5 (nI ((i + j9)))) 1 3 from rfl]
                      rw [show (ud (ud D 1 9 (D 1 5)) 1 5 (nI ((i + j9)))) 1 3 = (ud D 1 9 (D 1 5)) 1 3 from rfl]
                      rw [show (ud D 1 9 (D 1 5)) 1 3 = D 1 3 from rfl]
                      rw [q3]
                      refine And.intro (Wdo_88 hW) ?_
                      rw [pp_u1 (x := 87) (f := 1) (by decide)]
                      refine And.intro ⟨rfl, rfl, Nat.le_refl _, Nat.le_refl _⟩ ?_
                      have epl : plF B n i = i + j9 := by show i + rn (nI 32) (nI 32) B n i = i + j9; rw [rn_u (k := j9) qi (fun z => cz11 (Int32.le_antisymm z.2.2 z.2.1))]
                      have kk := ki_s (B := B) (n := n) (p := i + j9) (by omega) (fun z => absurd z.1 (Int32.not_le.mpr cz54)) (fun z => absurd z.2 (Int32.not_le.mpr cz77))
                      rw [if_pos (Or.inr cz98)] at kk
                      exact hQ _ _ (TC_mk epl qB q2 rfl (by rw [kk.1]; rfl) (by rw [kk.2]; show nI (i + j9) + nI 1 = nI (i + j9 + 1); exact nI_add _ 1) (by rw [kk.1]; intro z; exact absurd z (by decide)) (by rw [kk.1]; intro z; exact absurd z (by decide)) (by rw [kk.1]; intro _; rfl) ((qk 1 (by decide)).trans h01)) (qk 5 (by decide)) (qk 1 (by decide)) (fun g hg => by rw [ud_ne hg, ud_ne hg, ud_ne hg, ud_ne hg, ud_ne hg, ud_ne hg]; exact qD g hg) (fun g hg => rfl)
                · -- 77 not: ¬ nI 57 < B (i + j9)
                  refine And.intro ⟨by omega, Nat.le_of_ble_eq_true rfl, Nat.le_refl _, Nat.le_refl _⟩ (And.intro (Wdo_88 hW) ?_)
                  refine D109 (B := B) (n := n) (p := i + j9) (D0 := (ud (ud (ud D 1 9 (D 1 5)) 1 5 (nI ((i + j9)))) 1 6 (nI 0))) hW hB2 hdj hn (by omega) q2 rfl qB q3 (fun D1 K1 r7 r8 r3 r6 rk rD rK => ?_)
                  have rl := rn_le (f := nI 48) (l := nI 57) (B := B) (n := n) (p := i + j9) (by omega)
                  refine And.intro (Wdo_88 hW) ?_
                  rw [pp_1 (x := 87) (f := 1) (by decide)]
                  rw [r6]
                  refine And.intro (fun cz86 => ?_) (fun cz86 => ?_)
                  · -- 86 taken: nI ((rn (nI 48) (nI 57) B n (i + j9))) ≤ nI 3
                    have kz86 : (rn (nI 48) (nI 57) B n (i + j9)) ≤ 3 := kle (a := (rn (nI 48) (nI 57) B n (i + j9))) (b := 3) rfl rfl (by omega) (by omega) cz86
                    refine And.intro (Wdo_88 hW) ?_
                    rw [pp_u1 (x := 87) (f := 1) (by decide)]
                    refine And.intro ⟨rfl, rfl, Nat.le_refl _, Nat.le_refl _⟩ ?_
                    have epl : plF B n i = i + j9 := by show i + rn (nI 32) (nI 32) B n i = i + j9; rw [rn_u (k := j9) qi (fun z => cz11 (Int32.le_antisymm z.2.2 z.2.1))]
                    have kk := ki_d (B := B) (n := n) (p := i + j9) (by omega) (fun z => absurd z.1 (Int32.not_le.mpr cz54)) (⟨Int32.not_lt.mp cz74, Int32.not_lt.mp cz77⟩ : dgt (B (i + j9)))
                    rw [if_neg (show ¬ 3 < dlF B n (i + j9) from Nat.not_lt.mpr kz86)] at kk
                    exact hQ _ _ (TC_mk epl ((rD 2 (by decide)).trans qB) ((rk 2 (by decide) (by decide) (by decide)).trans q2) ((rk 5 (by decide) (by decide) (by decide)).trans rfl) (by rw [kk.1]; rfl) (by rw [kk.2]; exact r3) (by rw [kk.1]; intro z; exact absurd z (by decide)) (by rw [kk.1]; intro _; exact r7) (by rw [kk.1]; intro z; exact absurd z (by decide)) ((rk 1 (by decide) (by decide) (by decide)).trans ((qk 1 (by decide)).trans h01))) ((rk 9 (by decide) (by decide) (by decide)).trans (qk 5 (by decide))) ((rk 1 (by decide) (by decide) (by decide)).trans (qk 1 (by decide))) (fun g hg => by rw [ud_ne hg, rD g hg, ud_ne hg, ud_ne hg, ud_ne hg]; exact qD g hg) rK
                  · -- 86 not: ¬ nI ((rn (nI 48) (nI 57) B n (i + j9))) ≤ nI 3
                    have kz86 : 3 < (rn (nI 48) (nI 57) B n (i + j9)) := knle (a := (rn (nI 48) (nI 57) B n (i + j9))) (b := 3) rfl rfl (by omega) (by omega) cz86
                    refine And.intro (Wdo_88 hW) ?_
                    rw [pp_u1 (x := 87) (f := 1) (by decide)]
                    refine And.intro ⟨rfl, rfl, Nat.le_refl _, Nat.le_refl _⟩ ?_
                    have epl : plF B n i = i + j9 := by show i + rn (nI 32) (nI 32) B n i = i + j9; rw [rn_u (k := j9) qi (fun z => cz11 (Int32.le_antisymm z.2.2 z.2.1))]
                    have kk := ki_d (B := B) (n := n) (p := i + j9) (by omega) (fun z => absurd z.1 (Int32.not_le.mpr cz54)) (⟨Int32.not_lt.mp cz74, Int32.not_lt.mp cz77⟩ : dgt (B (i + j9)))
                    rw [if_pos (show 3 < dlF B n (i + j9) from kz86)] at kk
                    exact hQ _ _ (TC_mk epl ((rD 2 (by decide)).trans qB) ((rk 2 (by decide) (by decide) (by decide)).trans q2) ((rk 5 (by decide) (by decide) (by decide)).trans rfl) (by rw [kk.1]; rfl) (by rw [kk.2]; exact r3) (by rw [kk.1]; intro z; exact absurd z (by decide)) (by rw [kk.1]; intro z; exact absurd z (by decide)) (by rw [kk.1]; intro z; exact absurd z (by decide)) ((rk 1 (by decide) (by decide) (by decide)).trans ((qk 1 (by decide)).trans h01))) ((rk 9 (by decide) (by decide) (by decide)).trans (qk 5 (by decide))) ((rk 1 (by decide) (by decide) (by decide)).trans (qk 1 (by decide))) (fun g hg => by rw [ud_ne hg, rD g hg, ud_ne hg, ud_ne hg, ud_ne hg]; exact qD g hg) rK
            · -- 54 not: ¬ B (i + j9) < nI 97
              refine And.intro (fun cz57 => ?_) (fun cz57 => ?_)
              · -- 57 taken: nI 122 < B (i + j9)
                refine And.intro (fun cz74 => ?_) (fun cz74 => ?_)
                · -- 74 taken: B (i + j9) < nI 48
                  refine And.intro (fun cz95 => ?_) (fun cz95 => ?_)
                  · -- 95 taken: B (i + j9) = nI 59
                    refine And.intro (Wdo_88 hW) ?_
                    rw [pp_u1 (x := 87) (f := 1) (by decide)]
                    refine And.intro (Wdo_88 hW) ?_
                    rw [pp_u1 (x := 87) (f := 1) (by decide)]
                    refine And.intro rfl ?_
                    refine And.intro (Wdo_88 hW) ?_
                    rw [pp_1 (x := 87) (f := 1) (by decide)]
                    rw [show (ud (ud (ud (ud (ud D 1 9 (D 1 5)) 1 5 (nI ((i + j9)))) 1 6 (nI 0)) 1 4 (nI 4)) 1 7 (B (i + j9))) 1 3 = (ud (ud (ud (ud D 1 9 (D 1 5)) 1 5 (nI ((i + j9)))) 1 6 (nI 0)) 1 4 (nI 4)) 1 3 from rfl]
                    rw [show (ud (ud (ud (ud D 1 9 (D 1 5)) 1 5 (nI ((i + j9)))) 1 6 (nI 0)) 1 4 (nI 4)) 1 3 = (ud (ud (ud D 1 9 (D 1 5)) 1 5 (nI ((i + j9)))) 1 6 (nI 0)) 1 3 from rfl]
                    rw [show (ud (ud (ud D 1 9 (D 1 5)) 1 5 (nI ((i + j9)))) 1 6 (nI 0)) 1 3 = (ud (ud D 1 9 (D 1 5)) 1 5 (nI ((i + j9)))) 1 3 from rfl]
                    rw [show (ud (ud D 1 9 (D 1 5)) 1 5 (nI ((i + j9)))) 1 3 = (ud D 1 9 (D 1 5)) 1 3 from rfl]
                    rw [show (ud D 1 9 (D 1 5)) 1 3 = D 1 3 from rfl]
                    rw [q3]
                    refine And.intro (Wdo_88 hW) ?_
                    rw [pp_u1 (x := 87) (f := 1) (by decide)]
                    refine And.intro ⟨rfl, rfl, Nat.le_refl _, Nat.le_refl _⟩ ?_
                    have epl : plF B n i = i + j9 := by show i + rn (nI 32) (nI 32) B n i = i + j9; rw [rn_u (k := j9) qi (fun z => cz11 (Int32.le_antisymm z.2.2 z.2.1))]
                    have kk := ki_s (B := B) (n := n) (p := i + j9) (by omega) (fun z => absurd z.2 (Int32.not_le.mpr cz57)) (fun z => absurd z.1 (Int32.not_le.mpr cz74))
                    rw [if_pos (Or.inl cz95)] at kk
                    exact hQ _ _ (TC_mk epl qB q2 rfl (by rw [kk.1]; rfl) (by rw [kk.2]; show nI (i + j9) + nI 1 = nI (i + j9 + 1); exact nI_add _ 1) (by rw [kk.1]; intro z; exact absurd z (by decide)) (by rw [kk.1]; intro z; exact absurd z (by decide)) (by rw [kk.1]; intro _; rfl) ((qk 1 (by decide)).trans h01)) (qk 5 (by decide)) (qk 1 (by decide)) (fun g hg => by rw [ud_ne hg, ud_ne hg, ud_ne hg, ud_ne hg, ud_ne hg, ud_ne hg]; exact qD g hg) (fun g hg => rfl)
                  · -- 95 not: ¬ B (i + j9) = nI 59
                    refine And.intro (fun cz98 => ?_) (fun cz98 => ?_)
                    · -- 98 taken: ¬ B (i + j9) = nI 44
                      refine And.intro (Wdo_88 hW) ?_
                      rw [pp_u1 (x := 87) (f := 1) (by decide)]
                      refine And.intro (Wdo_88 hW) ?_
                      rw [pp_u1 (x := 87) (f := 1) (by decide)]
                      refine And.intro rfl ?_
                      refine And.intro (Wdo_88 hW) ?_
                      rw [pp_1 (x := 87) (f := 1) (by decide)]
                      rw [show (ud (ud (ud (ud (ud D 1 9 (D 1 5)) 1 5 (nI ((i + j9)))) 1 6 (nI 0)) 1 4 (nI 1)) 1 7 (B (i + j9))) 1 3 = (ud (ud (ud (ud D 1 9 (D 1 5)) 1 5 (nI ((i + j9)))) 1 6 (nI 0)) 1 4 (nI 1)) 1 3 from rfl]
                      rw [show (ud (ud (ud (ud D 1 9 (D 1 5)) 1 5 (nI ((i + j9)))) 1 6 (nI 0)) 1 4 (nI 1)) 1 3 = (ud (ud (ud D 1 9 (D 1 5)) 1 5 (nI ((i + j9)))) 1 6 (nI 0)) 1 3 from rfl]
                      rw [show (ud (ud (ud D 1 9 (D 1 5)) 1 5 (nI ((i + j9)))) 1 6 (nI 0)) 1 3 = (ud (ud D 1 9 (D 1 5)) 1 5 (nI ((i + j9)))) 1 3 from rfl]
                      rw [show (ud (ud D 1 9 (D 1 5)) 1 5 (nI ((i + j9)))) 1 3 = (ud D 1 9 (D 1 5)) 1 3 from rfl]
                      rw [show (ud D 1 9 (D 1 5)) 1 3 = D 1 3 from rfl]
                      rw [q3]
                      refine And.intro (Wdo_88 hW) ?_
                      rw [pp_u1 (x := 87) (f := 1) (by decide)]
                      refine And.intro ⟨rfl, rfl, Nat.le_refl _, Nat.le_refl _⟩ ?_
                      have epl : plF B n i = i + j9 := by show i + rn (nI 32) (nI 32) B n i = i + j9; rw [rn_u (k := j9) qi (fun z => cz11 (Int32.le_antisymm z.2.2 z.2.1))]
                      have kk := ki_s (B := B) (n := n) (p := i + j9) (by omega) (fun z => absurd z.2 (Int32.not_le.mpr cz57)) (fun z => absurd z.1 (Int32.not_le.mpr cz74))
                      rw [if_neg (fun z => z.elim cz95 cz98)] at kk
                      exact hQ _ _ (TC_mk epl qB q2 rfl (by rw [kk.1]; rfl) (by rw [kk.2]; show nI (i + j9) + nI 1 = nI (i + j9 + 1); exact nI_add _ 1) (by rw [kk.1]; intro z; exact absurd z (by decide)) (by rw [kk.1]; intro z; exact absurd z (by decide)) (by rw [kk.1]; intro z; exact absurd z (by decide)) ((qk 1 (by decide)).trans h01)) (qk 5 (by decide)) (qk 1 (by decide)) (fun g hg => by rw [ud_ne hg, ud_ne hg, ud_ne hg, ud_ne hg, ud_ne hg, ud_ne hg]; exact qD g hg) (fun g hg => rfl)
                    · -- 98 not: B (i + j9) = nI 44
                      refine And.intro (Wdo_88 hW) ?_
                      rw [pp_u1 (x := 87) (f := 1) (by decide)]
                      refine And.intro (Wdo_88 hW) ?_
                      rw [pp_u1 (x := 87) (f := 1) (by decide)]
                      refine And.intro rfl ?_
                      refine And.intro (Wdo_88 hW) ?_
                      rw [pp_1 (x := 87) (f := 1) (by decide)]
                      rw [show (ud (ud (ud (ud (ud D 1 9 (D 1 5)) 1 5 (nI ((i + j9)))) 1 6 (nI 0)) 1 4 (nI 4)) 1 7 (B (i + j9))) 1 3 = (ud (ud (ud (ud D 1 9 (D 1 5)) 1 5 (nI ((i + j9)))) 1 6 (nI 0)) 1 4 (nI 4)) 1 3 from rfl]
                      rw [show (ud (ud (ud (ud D 1 9 (D 1 5)) 1 5 (nI ((i + j9)))) 1 6 (nI 0)) 1 4 (nI 4)) 1 3 = (ud (ud (ud D 1 9 (D 1 5)) 1 5 (nI ((i + j9)))) 1 6 (nI 0)) 1 3 from rfl]
                      rw [show (ud (ud (ud D 1 9 (D 1 5)) 1 5 (nI ((i + j9)))) 1 6 (nI 0)) 1 3 = (ud (ud D 1 9 (D 1 5)) 1 5 (nI ((i + j9)))) 1 3 from rfl]
                      rw [show (ud (ud D 1 9 (D 1 5)) 1 5 (nI ((i + j9)))) 1 3 = (ud D 1 9 (D 1 5)) 1 3 from rfl]
                      rw [show (ud D 1 9 (D 1 5)) 1 3 = D 1 3 from rfl]
                      rw [q3]
                      refine And.intro (Wdo_88 hW) ?_
                      rw [pp_u1 (x := 87) (f := 1) (by decide)]
                      refine And.intro ⟨rfl, rfl, Nat.le_refl _, Nat.le_refl _⟩ ?_
                      have epl : plF B n i = i + j9 := by show i + rn (nI 32) (nI 32) B n i = i + j9; rw [rn_u (k := j9) qi (fun z => cz11 (Int32.le_antisymm z.2.2 z.2.1))]
                      have kk := ki_s (B := B) (n := n) (p := i + j9) (by omega) (fun z => absurd z.2 (Int32.not_le.mpr cz57)) (fun z => absurd z.1 (Int32.not_le.mpr cz74))
                      rw [if_pos (Or.inr cz98)] at kk
                      exact hQ _ _ (TC_mk epl qB q2 rfl (by rw [kk.1]; rfl) (by rw [kk.2]; show nI (i + j9) + nI 1 = nI (i + j9 + 1); exact nI_add _ 1) (by rw [kk.1]; intro z; exact absurd z (by decide)) (by rw [kk.1]; intro z; exact absurd z (by decide)) (by rw [kk.1]; intro _; rfl) ((qk 1 (by decide)).trans h01)) (qk 5 (by decide)) (qk 1 (by decide)) (fun g hg => by rw [ud_ne hg, ud_ne hg, ud_ne hg, ud_ne hg, ud_ne hg, ud_ne hg]; exact qD g hg) (fun g hg => rfl)
                · -- 74 not: ¬ B (i + j9) < nI 48
                  refine And.intro (fun cz77 => ?_) (fun cz77 => ?_)
                  · -- 77 taken: nI 57 < B (i + j9)
                    refine And.intro (fun cz95 => ?_) (fun cz95 => ?_)
                    · -- 95 taken: B (i + j9) = nI 59
                      refine And.intro (Wdo_88 hW) ?_
                      rw [pp_u1 (x := 87) (f := 1) (by decide)]
                      refine And.intro (Wdo_88 hW) ?_
                      rw [pp_u1 (x := 87) (f := 1) (by decide)]
                      refine And.intro rfl ?_
                      refine And.intro (Wdo_88 hW) ?_
                      rw [pp_1 (x := 87) (f := 1) (by decide)]
                      rw [show (ud (ud (ud (ud (ud D 1 9 (D 1 5)) 1 5 (nI ((i + j9)))) 1 6 (nI 0)) 1 4 (nI 4)) 1 7 (B (i + j9))) 1 3 = (ud (ud (ud (ud D 1 9 (D 1 5)) 1 5 (nI ((i + j9)))) 1 6 (nI 0)) 1 4 (nI 4)) 1 3 from rfl]
                      rw [show (ud (ud (ud (ud D 1 9 (D 1 5)) 1 5 (nI ((i + j9)))) 1 6 (nI 0)) 1 4 (nI 4)) 1 3 = (ud (ud (ud D 1 9 (D 1 5)) 1 5 (nI ((i + j9)))) 1 6 (nI 0)) 1 3 from rfl]
                      rw [show (ud (ud (ud D 1 9 (D 1 5)) 1 5 (nI ((i + j9)))) 1 6 (nI 0)) 1 3 = (ud (ud D 1 9 (D 1 5)) 1 5 (nI ((i + j9)))) 1 3 from rfl]
                      rw [show (ud (ud D 1 9 (D 1 5)) 1 5 (nI ((i + j9)))) 1 3 = (ud D 1 9 (D 1 5)) 1 3 from rfl]
                      rw [show (ud D 1 9 (D 1 5)) 1 3 = D 1 3 from rfl]
                      rw [q3]
                      refine And.intro (Wdo_88 hW) ?_
                      rw [pp_u1 (x := 87) (f := 1) (by decide)]
                      refine And.intro ⟨rfl, rfl, Nat.le_refl _, Nat.le_refl _⟩ ?_
                      have epl : plF B n i = i + j9 := by show i + rn (nI 32) (nI 32) B n i = i + j9; rw [rn_u (k := j9) qi (fun z => cz11 (Int32.le_antisymm z.2.2 z.2.1))]
                      have kk := ki_s (B := B) (n := n) (p := i + j9) (by omega) (fun z => absurd z.2 (Int32.not_le.mpr cz57)) (fun z => absurd z.2 (Int32.not_le.mpr cz77))
                      rw [if_pos (Or.inl cz95)] at kk
                      exact hQ _ _ (TC_mk epl qB q2 rfl (by rw [kk.1]; rfl) (by rw [kk.2]; show nI (i + j9) + nI 1 = nI (i + j9 + 1); exact nI_add _ 1) (by rw [kk.1]; intro z; exact absurd z (by decide)) (by rw [kk.1]; intro z; exact absurd z (by decide)) (by rw [kk.1]; intro _; rfl) ((qk 1 (by decide)).trans h01)) (qk 5 (by decide)) (qk 1 (by decide)) (fun g hg => by rw [ud_ne hg, ud_ne hg, ud_ne hg, ud_ne hg, ud_ne hg, ud_ne hg]; exact qD g hg) (fun g hg => rfl)
                    · -- 95 not: ¬ B (i + j9) = nI 59
                      refine And.intro (fun cz98 => ?_) (fun cz98 => ?_)
                      · -- 98 taken: ¬ B (i + j9) = nI 44
                        refine And.intro (Wdo_88 hW) ?_
                        rw [pp_u1 (x := 87) (f := 1) (by decide)]
                        refine And.intro (Wdo_88 hW) ?_
                        rw [pp_u1 (x := 87) (f := 1) (by decide)]
                        refine And.intro rfl ?_
                        refine And.intro (Wdo_88 hW) ?_
                        rw [pp_1 (x := 87) (f := 1) (by decide)]
                        rw [show (ud (ud (ud (ud (ud D 1 9 (D 1 5)) 1 5 (nI ((i + j9)))) 1 6 (nI 0)) 1 4 (nI 1)) 1 7 (B (i + j9))) 1 3 = (ud (ud (ud (ud D 1 9 (D 1 5)) 1 5 (nI ((i + j9)))) 1 6 (nI 0)) 1 4 (nI 1)) 1 3 from rfl]
                        rw [show (ud (ud (ud (ud D 1 9 (D 1 5)) 1 5 (nI ((i + j9)))) 1 6 (nI 0)) 1 4 (nI 1)) 1 3 = (ud (ud (ud D 1 9 (D 1 5)) 1 5 (nI ((i + j9)))) 1 6 (nI 0)) 1 3 from rfl]
                        rw [show (ud (ud (ud D 1 9 (D 1 5)) 1 5 (nI ((i + j9)))) 1 6 (nI 0)) 1 3 = (ud (ud D 1 9 (D 1 5)) 1 5 (nI ((i + j9)))) 1 3 from rfl]
                        rw [show (ud (ud D 1 9 (D 1 5)) 1 5 (nI ((i + j9)))) 1 3 = (ud D 1 9 (D 1 5)) 1 3 from rfl]
                        rw [show (ud D 1 9 (D 1 5)) 1 3 = D 1 3 from rfl]
                        rw [q3]
                        refine And.intro (Wdo_88 hW) ?_
                        rw [pp_u1 (x := 87) (f := 1) (by decide)]
                        refine And.intro ⟨rfl, rfl, Nat.le_refl _, Nat.le_refl _⟩ ?_
                        have epl : plF B n i = i + j9 := by show i + rn (nI 32) (nI 32) B n i = i + j9; rw [rn_u (k := j9) qi (fun z => cz11 (Int32.le_antisymm z.2.2 z.2.1))]
                        have kk := ki_s (B := B) (n := n) (p := i + j9) (by omega) (fun z => absurd z.2 (Int32.not_le.mpr cz57)) (fun z => absurd z.2 (Int32.not_le.mpr cz77))
                        rw [if_neg (fun z => z.elim cz95 cz98)] at kk
                        exact hQ _ _ (TC_mk epl qB q2 rfl (by rw [kk.1]; rfl) (by rw [kk.2]; show nI (i + j9) + nI 1 = nI (i + j9 + 1); exact nI_add _ 1) (by rw [kk.1]; intro z; exact absurd z (by decide)) (by rw [kk.1]; intro z; exact absurd z (by decide)) (by rw [kk.1]; intro z; exact absurd z (by decide)) ((qk 1 (by decide)).trans h01)) (qk 5 (by decide)) (qk 1 (by decide)) (fun g hg => by rw [ud_ne hg, ud_ne hg, ud_ne hg, ud_ne hg, ud_ne hg, ud_ne hg]; exact qD g hg) (fun g hg => rfl)
                      · -- 98 not: B (i + j9) = nI 44
                        refine And.intro (Wdo_88 hW) ?_
                        rw [pp_u1 (x := 87) (f := 1) (by decide)]
                        refine And.intro (Wdo_88 hW) ?_
                        rw [pp_u1 (x := 87) (f := 1) (by decide)]
                        refine And.intro rfl ?_
                        refine And.intro (Wdo_88 hW) ?_
                        rw [pp_1 (x := 87) (f := 1) (by decide)]
                        rw [show (ud (ud (ud (ud (ud D 1 9 (D 1 5)) 1 5 (nI ((i + j9)))) 1 6 (nI 0)) 1 4 (nI 4)) 1 7 (B (i + j9))) 1 3 = (ud (ud (ud (ud D 1 9 (D 1 5)) 1 5 (nI ((i + j9)))) 1 6 (nI 0)) 1 4 (nI 4)) 1 3 from rfl]
                        rw [show (ud (ud (ud (ud D 1 9 (D 1 5)) 1 5 (nI ((i + j9)))) 1 6 (nI 0)) 1 4 (nI 4)) 1 3 = (ud (ud (ud D 1 9 (D 1 5)) 1 5 (nI ((i + j9)))) 1 6 (nI 0)) 1 3 from rfl]
                        rw [show (ud (ud (ud D 1 9 (D 1 5)) 1 5 (nI ((i + j9)))) 1 6 (nI 0)) 1 3 = (ud (ud D 1 9 (D 1 5)) 1 5 (nI ((i + j9)))) 1 3 from rfl]
                        rw [show (ud (ud D 1 9 (D 1 5)) 1 5 (nI ((i + j9)))) 1 3 = (ud D 1 9 (D 1 5)) 1 3 from rfl]
                        rw [show (ud D 1 9 (D 1 5)) 1 3 = D 1 3 from rfl]
                        rw [q3]
                        refine And.intro (Wdo_88 hW) ?_
                        rw [pp_u1 (x := 87) (f := 1) (by decide)]
                        refine And.intro ⟨rfl, rfl, Nat.le_refl _, Nat.le_refl _⟩ ?_
                        have epl : plF B n i = i + j9 := by show i + rn (nI 32) (nI 32) B n i = i + j9; rw [rn_u (k := j9) qi (fun z => cz11 (Int32.le_antisymm z.2.2 z.2.1))]
                        have kk := ki_s (B := B) (n := n) (p := i + j9) (by omega) (fun z => absurd z.2 (Int32.not_le.mpr cz57)) (fun z => absurd z.2 (Int32.not_le.mpr cz77))
                        rw [if_pos (Or.inr cz98)] at kk
                        exact hQ _ _ (TC_mk epl qB q2 rfl (by rw [kk.1]; rfl) (by rw [kk.2]; show nI (i + j9) + nI 1 = nI (i + j9 + 1); exact nI_add _ 1) (by rw [kk.1]; intro z; exact absurd z (by decide)) (by rw [kk.1]; intro z; exact absurd z (by decide)) (by rw [kk.1]; intro _; rfl) ((qk 1 (by decide)).trans h01)) (qk 5 (by decide)) (qk 1 (by decide)) (fun g hg => by rw [ud_ne hg, ud_ne hg, ud_ne hg, ud_ne hg, ud_ne hg, ud_ne hg]; exact qD g hg) (fun g hg => rfl)
                  · -- 77 not: ¬ nI 57 < B (i + j9)
                    refine And.intro ⟨by omega, Nat.le_of_ble_eq_true rfl, Nat.le_refl _, Nat.le_refl _⟩ (And.intro (Wdo_88 hW) ?_)
                    refine D109 (B := B) (n := n) (p := i + j9) (D0 := (ud (ud (ud D 1 9 (D 1 5)) 1 5 (nI ((i + j9)))) 1 6 (nI 0))) hW hB2 hdj hn (by omega) q2 rfl qB q3 (fun D1 K1 r7 r8 r3 r6 rk rD rK => ?_)
                    have rl := rn_le (f := nI 48) (l := nI 57) (B := B) (n := n) (p := i + j9) (by omega)
                    refine And.intro (Wdo_88 hW) ?_
                    rw [pp_1 (x := 87) (f := 1) (by decide)]
                    rw [r6]
                    refine And.intro (fun cz86 => ?_) (fun cz86 => ?_)
                    · -- 86 taken: nI ((rn (nI 48) (nI 57) B n (i + j9))) ≤ nI 3
                      have kz86 : (rn (nI 48) (nI 57) B n (i + j9)) ≤ 3 := kle (a := (rn (nI 48) (nI 57) B n (i + j9))) (b := 3) rfl rfl (by omega) (by omega) cz86
                      refine And.intro (Wdo_88 hW) ?_
                      rw [pp_u1 (x := 87) (f := 1) (by decide)]
                      refine And.intro ⟨rfl, rfl, Nat.le_refl _, Nat.le_refl _⟩ ?_
                      have epl : plF B n i = i + j9 := by show i + rn (nI 32) (nI 32) B n i = i + j9; rw [rn_u (k := j9) qi (fun z => cz11 (Int32.le_antisymm z.2.2 z.2.1))]
                      have kk := ki_d (B := B) (n := n) (p := i + j9) (by omega) (fun z => absurd z.2 (Int32.not_le.mpr cz57)) (⟨Int32.not_lt.mp cz74, Int32.not_lt.mp cz77⟩ : dgt (B (i + j9)))
                      rw [if_neg (show ¬ 3 < dlF B n (i + j9) from Nat.not_lt.mpr kz86)] at kk
                      exact hQ _ _ (TC_mk epl ((rD 2 (by decide)).trans qB) ((rk 2 (by decide) (by decide) (by decide)).trans q2) ((rk 5 (by decide) (by decide) (by decide)).trans rfl) (by rw [kk.1]; rfl) (by rw [kk.2]; exact r3) (by rw [kk.1]; intro z; exact absurd z (by decide)) (by rw [kk.1]; intro _; exact r7) (by rw [kk.1]; intro z; exact absurd z (by decide)) ((rk 1 (by decide) (by decide) (by decide)).trans ((qk 1 (by decide)).trans h01))) ((rk 9 (by decide) (by decide) (by decide)).trans (qk 5 (by decide))) ((rk 1 (by decide) (by decide) (by decide)).trans (qk 1 (by decide))) (fun g hg => by rw [ud_ne hg, rD g hg, ud_ne hg, ud_ne hg, ud_ne hg]; exact qD g hg) rK
                    · -- 86 not: ¬ nI ((rn (nI 48) (nI 57) B n (i + j9))) ≤ nI 3
                      have kz86 : 3 < (rn (nI 48) (nI 57) B n (i + j9)) := knle (a := (rn (nI 48) (nI 57) B n (i + j9))) (b := 3) rfl rfl (by omega) (by omega) cz86
                      refine And.intro (Wdo_88 hW) ?_
                      rw [pp_u1 (x := 87) (f := 1) (by decide)]
                      refine And.intro ⟨rfl, rfl, Nat.le_refl _, Nat.le_refl _⟩ ?_
                      have epl : plF B n i = i + j9 := by show i + rn (nI 32) (nI 32) B n i = i + j9; rw [rn_u (k := j9) qi (fun z => cz11 (Int32.le_antisymm z.2.2 z.2.1))]
                      have kk := ki_d (B := B) (n := n) (p := i + j9) (by omega) (fun z => absurd z.2 (Int32.not_le.mpr cz57)) (⟨Int32.not_lt.mp cz74, Int32.not_lt.mp cz77⟩ : dgt (B (i + j9)))
                      rw [if_pos (show 3 < dlF B n (i + j9) from kz86)] at kk
                      exact hQ _ _ (TC_mk epl ((rD 2 (by decide)).trans qB) ((rk 2 (by decide) (by decide) (by decide)).trans q2) ((rk 5 (by decide) (by decide) (by decide)).trans rfl) (by rw [kk.1]; rfl) (by rw [kk.2]; exact r3) (by rw [kk.1]; intro z; exact absurd z (by decide)) (by rw [kk.1]; intro z; exact absurd z (by decide)) (by rw [kk.1]; intro z; exact absurd z (by decide)) ((rk 1 (by decide) (by decide) (by decide)).trans ((qk 1 (by decide)).trans h01))) ((rk 9 (by decide) (by decide) (by decide)).trans (qk 5 (by decide))) ((rk 1 (by decide) (by decide) (by decide)).trans (qk 1 (by decide))) (fun g hg => by rw [ud_ne hg, rD g hg, ud_ne hg, ud_ne hg, ud_ne hg]; exact qD g hg) rK
              · -- 57 not: ¬ nI 122 < B (i + j9)
                refine And.intro ⟨by omega, Nat.le_of_ble_eq_true rfl, Nat.le_refl _, Nat.le_refl _⟩ (And.intro (Wdo_88 hW) ?_)
                refine D109 (B := B) (n := n) (p := i + j9) (D0 := (ud (ud (ud D 1 9 (D 1 5)) 1 5 (nI ((i + j9)))) 1 6 (nI 0))) hW hB2 hdj hn (by omega) q2 rfl qB q3 (fun D1 K1 r7 r8 r3 r6 rk rD rK => ?_)
                have rl := rn_le (f := nI 97) (l := nI 122) (B := B) (n := n) (p := i + j9) (by omega)
                refine And.intro (Wdo_88 hW) ?_
                rw [pp_1 (x := 87) (f := 1) (by decide)]
                rw [r6]
                refine And.intro (fun cz66 => ?_) (fun cz66 => ?_)
                · -- 66 taken: nI ((rn (nI 97) (nI 122) B n (i + j9))) ≤ nI 8
                  have kz66 : (rn (nI 97) (nI 122) B n (i + j9)) ≤ 8 := kle (a := (rn (nI 97) (nI 122) B n (i + j9))) (b := 8) rfl rfl (by omega) (by omega) cz66
                  refine And.intro (Wdo_88 hW) ?_
                  rw [pp_u1 (x := 87) (f := 1) (by decide)]
                  refine And.intro ⟨rfl, rfl, Nat.le_refl _, Nat.le_refl _⟩ ?_
                  have epl : plF B n i = i + j9 := by show i + rn (nI 32) (nI 32) B n i = i + j9; rw [rn_u (k := j9) qi (fun z => cz11 (Int32.le_antisymm z.2.2 z.2.1))]
                  have kk := ki_w (B := B) (n := n) (p := i + j9) (by omega) (⟨Int32.not_lt.mp cz54, Int32.not_lt.mp cz57⟩ : ltr (B (i + j9)))
                  change _ ∧ _ = _ at kk
                  rw [if_neg (show ¬ 8 < wlF B n (i + j9) from Nat.not_lt.mpr kz66)] at kk
                  exact hQ _ _ (TC_mk epl ((rD 2 (by decide)).trans qB) ((rk 2 (by decide) (by decide) (by decide)).trans q2) ((rk 5 (by decide) (by decide) (by decide)).trans rfl) (by rw [kk.1]; rfl) (by rw [kk.2]; exact r3) (by rw [kk.1]; intro _; exact ⟨r6, r8⟩) (by rw [kk.1]; intro z; exact absurd z (by decide)) (by rw [kk.1]; intro z; exact absurd z (by decide)) ((rk 1 (by decide) (by decide) (by decide)).trans ((qk 1 (by decide)).trans h01))) ((rk 9 (by decide) (by decide) (by decide)).trans (qk 5 (by decide))) ((rk 1 (by decide) (by decide) (by decide)).trans (qk 1 (by decide))) (fun g hg => by rw [ud_ne hg, rD g hg, ud_ne hg, ud_ne hg, ud_ne hg]; exact qD g hg) rK
                · -- 66 not: ¬ nI ((rn (nI 97) (nI 122) B n (i + j9))) ≤ nI 8
                  have kz66 : 8 < (rn (nI 97) (nI 122) B n (i + j9)) := knle (a := (rn (nI 97) (nI 122) B n (i + j9))) (b := 8) rfl rfl (by omega) (by omega) cz66
                  refine And.intro (Wdo_88 hW) ?_
                  rw [pp_u1 (x := 87) (f := 1) (by decide)]
                  refine And.intro ⟨rfl, rfl, Nat.le_refl _, Nat.le_refl _⟩ ?_
                  have epl : plF B n i = i + j9 := by show i + rn (nI 32) (nI 32) B n i = i + j9; rw [rn_u (k := j9) qi (fun z => cz11 (Int32.le_antisymm z.2.2 z.2.1))]
                  have kk := ki_w (B := B) (n := n) (p := i + j9) (by omega) (⟨Int32.not_lt.mp cz54, Int32.not_lt.mp cz57⟩ : ltr (B (i + j9)))
                  change _ ∧ _ = _ at kk
                  rw [if_pos (show 8 < wlF B n (i + j9) from kz66)] at kk
                  exact hQ _ _ (TC_mk epl ((rD 2 (by decide)).trans qB) ((rk 2 (by decide) (by decide) (by decide)).trans q2) ((rk 5 (by decide) (by decide) (by decide)).trans rfl) (by rw [kk.1]; rfl) (by rw [kk.2]; exact r3) (by rw [kk.1]; intro z; exact absurd z (by decide)) (by rw [kk.1]; intro z; exact absurd z (by decide)) (by rw [kk.1]; intro z; exact absurd z (by decide)) ((rk 1 (by decide) (by decide) (by decide)).trans ((qk 1 (by decide)).trans h01))) ((rk 9 (by decide) (by decide) (by decide)).trans (qk 5 (by decide))) ((rk 1 (by decide) (by decide) (by decide)).trans (qk 1 (by decide))) (fun g hg => by rw [ud_ne hg, rD g hg, ud_ne hg, ud_ne hg, ud_ne hg]; exact qD g hg) rK
          · -- 47 not: ¬ nI ((i + j9)) < nI n
            have kz47 : n ≤ (i + j9) := knlt (a := (i + j9)) (b := n) rfl rfl (by omega) (by omega) cz47
            omega
      · -- 11 not: B (i + j9) = nI 32
        refine And.intro rfl ?_
        refine And.intro (Wdo_88 hW) ?_
        rw [pp_1 (x := 87) (f := 1) (by decide)]
        rw [q3]
        refine And.intro (Wdo_88 hW) ?_
        rw [pp_u1 (x := 87) (f := 1) (by decide)]
        show Jj sc d 0 0 (mth 108) (pg P108 0).1 [some (.ref 88), none] [] (pp m 87 6 (ud D 1 3 ((nI ((i + j9))) + nI 1)) K0 b 19 E L) 0 0 Q
        refine ih (j9 + 1) _ (by omega) (by omega) ⟨?_, fun k h3 => ?_, fun g hg => ?_, fun j hj => ?_⟩
        · show nI (i + j9) + nI 1 = nI (i + (j9 + 1))
          rw [nI_add, Nat.add_assoc]
        · show upd (D 1) 3 _ k = D0 1 k
          rw [upd_o h3]
          exact qk k h3
        · rw [ud_ne hg]
          exact qD g hg
        · by_cases ez9 : j = j9
          · rw [ez9, show inb (nI 32) (nI 32) B n (i + j9) ↔ (i + j9 < n ∧ nI 32 ≤ B (i + j9) ∧ B (i + j9) ≤ nI 32) from Iff.rfl, cz11]; exact ⟨by omega, Int32.le_refl _, Int32.le_refl _⟩
          · exact qi j (by omega)
theorem D108 {d : Nat} {m : Mm} {Q : Option Value → Mm → Prop} {b : Nat} {E : Nat → Nat → Int32} {L : Nat → Nat → Int64} (hW : Wd m.2.2) (hB2 : LW m.2.2 b) (hdj : b + 19 ≤ 87 ∨ 87 + 6 ≤ b) {B : Nat → Int32} {n i : Nat} {D0 : Nat → Nat → Int32} {K0 : Nat → Nat → Int64} (hd : 1 ≤ d) (hn : n ≤ 1200) (hi : i ≤ n) (h02 : D0 1 2 = nI n) (h0B : D0 2 = B) (h01 : D0 1 1 = nI 0) (h03 : D0 1 3 = nI i) (hQ : ∀ D K, TC B n i D K → D 1 9 = D0 1 5 → D 1 1 = D0 1 1 → (∀ g, g ≠ 1 → D g = D0 g) → (∀ g, g ≠ 1 → K g = K0 g) → Q none (pp m 87 6 D K b 19 E L)) : Cc d 0 0 108 [.ref 88] (pp m 87 6 D0 K0 b 19 E L) Q := by
  refine Cc_of (by decide) (Nat.le_of_ble_eq_true rfl) (fun sc => ?_)
  show Jj sc d 0 0 (mth 108) (pg P108 0).1 [some (.ref 88), none] [] (pp m 87 6 D0 K0 b 19 E L) 0 0 Q
  exact lq108 hW hB2 hdj hd hn hi h02 h0B h01 hQ (n - i + 1) 0 _ (Nat.zero_le _) (by omega) ⟨h03, fun k _ => rfl, fun g _ => rfl, fun j h => absurd h (by omega)⟩
