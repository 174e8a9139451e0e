theorem sh_n : ∀ n, n ≤ 6 → nI 1 <<< (nI n &&& 31) = nI (2 ^ n) ∧ 1 ≤ 2 ^ n ∧ 2 ^ n ≤ 64 := by
  have h : ∀ n, n < 7 → nI 1 <<< (nI n &&& 31) = nI (2 ^ n) ∧ 1 ≤ 2 ^ n ∧ 2 ^ n ≤ 64 := by decide +kernel
  exact fun n hn => h n (by omega)
theorem bc_z {x : Int32} : ∃ w, w ≤ 32 ∧ bcF x = nI w ∧ (w = 0 ↔ x = 0) := by
  refine ⟨_, bc_n.2, bc_n.1, fun h => Classical.byContradiction fun z => ?_, fun h => by rw [h]; decide +kernel⟩
  have := (bc_l z).1
  omega
theorem or0 {x y : Int32} : x ||| y = 0 ↔ x = 0 ∧ y = 0 := by
  refine ⟨fun h => ?_, fun h => by rw [h.1, h.2]; rfl⟩
  have key : ∀ g, g < 32 → ¬ bq x (nI g) ∧ ¬ bq y (nI g) := fun g hg => by
    have h1 : ¬ bq (x ||| y) (nI g) := by rw [h]; exact bq_0 g hg
    rw [bq_or hg] at h1
    exact ⟨fun z => h1 (Or.inl z), fun z => h1 (Or.inr z)⟩
  exact ⟨bq_ext fun g hg => ⟨fun z => absurd z (key g hg).1, fun z => absurd z (bq_0 g hg)⟩, bq_ext fun g hg => ⟨fun z => absurd z (key g hg).2, fun z => absurd z (bq_0 g hg)⟩⟩
theorem and_or {x y v : Int32} : (x ||| y) &&& v = (x &&& v) ||| (y &&& v) := bq_ext fun g hg => by
  rw [bq_and hg, bq_or hg, bq_or hg, bq_and hg, bq_and hg]
  exact ⟨fun z => z.1.elim (fun a => Or.inl ⟨a, z.2⟩) (fun a => Or.inr ⟨a, z.2⟩), fun z => z.elim (fun a => ⟨Or.inl a.1, a.2⟩) (fun a => ⟨Or.inr a.1, a.2⟩)⟩
theorem z_and {v : Int32} : nI 0 &&& v = 0 := bq_ext fun g hg => by
  rw [bq_and hg]
  exact ⟨fun z => absurd z.1 (bq_0 g hg), fun z => absurd z (bq_0 g hg)⟩
theorem ws_z {off : Nat → Int32} {b v : Int32} {t s : Nat} : ∀ g, (wsF off b t s g &&& v = 0 ↔ ∀ b1, b1 < g → bq b (nI b1) → off ((b1 * 6 + t) * 5 + s) &&& v = 0)
  | 0 => ⟨fun _ b1 h => absurd h (Nat.not_lt_zero _), fun _ => z_and⟩
  | g + 1 => by
    have ih := ws_z (off := off) (b := b) (v := v) (t := t) (s := s) g
    rw [show wsF off b t s (g + 1) = (if bq b (nI g) then wsF off b t s g ||| off ((g * 6 + t) * 5 + s) else wsF off b t s g) from fo_s]
    by_cases hb : bq b (nI g)
    · rw [if_pos hb, and_or, or0, ih]
      refine ⟨fun z b1 h1 h2 => ?_, fun z => ⟨fun b1 h1 h2 => z b1 (by omega) h2, z g (by omega) hb⟩⟩
      by_cases e : b1 = g
      · rw [e]; exact z.2
      · exact z.1 b1 (by omega) h2
    · rw [if_neg hb, ih]
      refine ⟨fun z b1 h1 h2 => ?_, fun z b1 h1 h2 => z b1 (by omega) h2⟩
      by_cases e : b1 = g
      · rw [e] at h2; exact absurd h2 hb
      · exact z b1 (by omega) h2
theorem he_s {off : Nat → Int32} {x y t V : Nat} {gr : Int32} : ∀ s, s ≤ 5 → ∃ w, w ≤ 32 * s ∧ fo (heS off x y t gr) (nI V) s = nI (V + w) ∧ (w = 0 ↔ ∀ s1, s1 < s → bq gr (nI s1) → off ((x * 6 + t) * 5 + s1) &&& off ((y * 6 + t) * 5 + s1) = 0)
  | 0, _ => ⟨0, by omega, rfl, fun _ s1 h => absurd h (Nat.not_lt_zero _), fun _ => rfl⟩
  | s + 1, hs => by
    obtain ⟨w, hw, ew, iw⟩ := he_s (off := off) (x := x) (y := y) (t := t) (V := V) (gr := gr) s (by omega)
    obtain ⟨p, hp, ep, ip⟩ := bc_z (x := off ((x * 6 + t) * 5 + s) &&& off ((y * 6 + t) * 5 + s))
    rw [fo_s, ew]
    unfold heS
    by_cases hb : bq gr (nI s)
    · rw [if_pos hb, ep, nI_add]
      refine ⟨w + p, by omega, by rw [Nat.add_assoc], fun z s1 h1 h2 => ?_, fun z => ?_⟩
      · by_cases e : s1 = s
        · rw [e]; exact ip.mp (by omega)
        · exact iw.mp (by omega) s1 (by omega) h2
      · have a := iw.mpr (fun s1 h1 h2 => z s1 (by omega) h2)
        have b := ip.mpr (z s (by omega) hb)
        omega
    · rw [if_neg hb]
      refine ⟨w, by omega, rfl, fun z s1 h1 h2 => ?_, fun z => iw.mpr (fun s1 h1 h2 => z s1 (by omega) h2)⟩
      by_cases e : s1 = s
      · rw [e] at h2; exact absurd h2 hb
      · exact iw.mp z s1 (by omega) h2
theorem he_t {off : Nat → Int32} {x y : Nat} {gr : Int32} : ∀ nt, ∃ w, w ≤ 160 * nt ∧ heF off x y gr nt = nI w ∧ (w = 0 ↔ ∀ t1, t1 < nt → ∀ s1, s1 < 5 → bq gr (nI s1) → off ((x * 6 + t1) * 5 + s1) &&& off ((y * 6 + t1) * 5 + s1) = 0)
  | 0 => ⟨0, by omega, rfl, fun _ s1 h => absurd h (Nat.not_lt_zero _), fun _ => rfl⟩
  | t + 1 => by
    obtain ⟨w, hw, ew, iw⟩ := he_t (off := off) (x := x) (y := y) (gr := gr) t
    obtain ⟨p, hp, ep, ip⟩ := he_s (off := off) (x := x) (y := y) (t := t) (V := w) (gr := gr) 5 (by omega)
    have e : heF off x y gr (t + 1) = fo (heS off x y t gr) (heF off x y gr t) 5 := rfl
    rw [e, ew, ep]
    refine ⟨w + p, by omega, rfl, fun z t1 h1 => ?_, fun z => ?_⟩
    · by_cases ez1 : t1 = t
      · rw [ez1]; exact ip.mp (by omega)
      · exact iw.mp (by omega) t1 (by omega)
    · have a := iw.mpr (fun t1 h1 => z t1 (by omega))
      have b := ip.mpr (z t (by omega))
      omega
theorem he_p {off : Nat → Int32} {x y nt : Nat} {gr : Int32} (hn : nt ≤ 6) : (¬ 0 < heF off x y gr nt) ↔ ∀ t1, t1 < nt → ∀ s1, s1 < 5 → bq gr (nI s1) → off ((x * 6 + t1) * 5 + s1) &&& off ((y * 6 + t1) * 5 + s1) = 0 := by
  obtain ⟨w, hw, ew, iw⟩ := he_t (off := off) (x := x) (y := y) (gr := gr) nt
  rw [ew, ← iw]
  rcases Nat.eq_zero_or_pos w with z | z
  · rw [z]; decide
  · exact ⟨fun h => absurd (nI_lt z (by omega)) h, fun h => absurd h (by omega)⟩
theorem and_c {x y : Int32} : x &&& y = y &&& x := bq_ext fun g hg => by rw [bq_and hg, bq_and hg]; exact and_comm
theorem fhQ_c {P R : Nat → Prop} {n : Nat} (h : ∀ s, s < n → (P s ↔ R s)) : fhQ P n = fhQ R n := by
  unfold fhQ
  refine fo_c (fun s hs y => ?_)
  unfold fhS
  rw [bi_c (h s hs)]
theorem wsF_c {f g : Nat → Int32} {b : Int32} {t s n : Nat} (he : ∀ x, x < 180 → f x = g x) (ht : t < 6) (hs : s < 5) (hn : n ≤ 6) : wsF f b t s n = wsF g b t s n := by
  unfold wsF
  exact fo_c (fun i hi y => by rw [he _ (by omega)])
theorem whF_c {f g : Nat → Int32} {t s n : Nat} (he : ∀ x, x < 180 → f x = g x) (ht : t < 6) (hs : s < 5) (hn : n ≤ 6) : whF f t s n = whF g t s n := by
  unfold whF
  exact fo_c (fun i hi y => by rw [he _ (by omega)])
/-- gods who have all, and (p) nothing twice: the class's word and the reference's -/
theorem ke_e {off off2 : Nat → Int32} {b p gr : Int32} {n nt : Nat} (hn : n ≤ 6) (hnt : nt ≤ 6) (he : ∀ x, x < 180 → off x = off2 x) : ((∀ t1, t1 < nt → ∀ s1, s1 < 5 → bq gr (nI s1) → wsF off b t1 s1 n = whF off t1 s1 n) ∧ (p = 0 ∨ ∀ a1, a1 < n → ∀ b1, b1 < a1 → ¬ (bq b (nI a1) ∧ bq b (nI b1) ∧ 0 < heF off a1 b1 gr nt))) ↔ ∀ t1, t1 < nt → ∀ s1, s1 < 5 → bq gr (nI s1) → haP off2 b p t1 s1 n := by
  have ez7 : ∀ x y nt2, x < 6 → y < 6 → nt2 ≤ 6 → heF off x y gr nt2 = heF off2 x y gr nt2 := fun x y nt2 h1 h2 h3 => heF_c he h1 h2 h3
  refine ⟨fun z t1 h1 s1 h2 h3 => ⟨fun g hg hb hp => ?_, ?_⟩, fun z => ⟨fun t1 h1 s1 h2 h3 => ?_, ?_⟩⟩
  · rw [ws_z]
    intro b1 hb1 hbb
    have hno := z.2.resolve_left hp g hg b1 hb1
    rw [ez7 _ _ _ (by omega) (by omega) hnt] at hno
    have h9 := (he_p (off := off2) hnt).mp (fun y => hno ⟨hb, hbb, y⟩) t1 h1 s1 h2 h3
    rw [and_c]
    exact h9
  · rw [← wsF_c he (by omega) h2 hn, ← whF_c he (by omega) h2 hn]
    exact z.1 t1 h1 s1 h2 h3
  · rw [wsF_c he (by omega) h2 hn, whF_c he (by omega) h2 hn]
    exact (z t1 h1 s1 h2 h3).2
  · by_cases hp : p = 0
    · exact Or.inl hp
    · refine Or.inr (fun a1 ha b1 hb hh => ?_)
      rw [ez7 _ _ _ (by omega) (by omega) hnt] at hh
      refine absurd hh.2.2 ((he_p (off := off2) hnt).mpr (fun t1 h1 s1 h2 h3 => ?_))
      have h9 := (ws_z a1).mp ((z t1 h1 s1 h2 h3).1 a1 ha hh.1 hp) b1 hb hh.2.1
      rw [and_c]
      exact h9
theorem lfw {sc : Nat × (Nat → Int32)} {d : Nat} {m : Mm} {Q : Option Value → Mm → Prop} {q n nt : Nat} (hd : 4 ≤ d) (hW : Wd m.2.2) (hN : NW m.2.2 q) (h158 : 158 ≤ q) (hq : va_rf (mR m 142 3) = .ref q) (hn : mI m q 6 = nI n) (hn6 : n ≤ 6) (hnt : mI m q 5 = nI nt) (hnt6 : nt ≤ 6) {p : Int32} (hQ : Q (some (.int (fhQ (fun s => (∀ t1, t1 < nt → ∀ s1, s1 < 5 → bq (mI m q 4) (nI s1) → wsF (mI m (q + 7)) (nI s) t1 s1 n = whF (mI m (q + 7)) t1 s1 n) ∧ (p = 0 ∨ ∀ a1, a1 < n → ∀ b1, b1 < a1 → ¬ (bq (nI s) (nI a1) ∧ bq (nI s) (nI b1) ∧ 0 < heF (mI m (q + 7)) a1 b1 (mI m q 4) nt))) (2 ^ n)))) m)  : ∀ (j s : Nat), s ≤ 2 ^ n → 2 ^ n + 1 ≤ s + j → Jj sc d 0 0 (mth 299) (pg P299 4).1 [some (.ref 142), some (.int p), some (.int (fhQ (fun s => (∀ t1, t1 < nt → ∀ s1, s1 < 5 → bq (mI m q 4) (nI s1) → wsF (mI m (q + 7)) (nI s) t1 s1 n = whF (mI m (q + 7)) t1 s1 n) ∧ (p = 0 ∨ ∀ a1, a1 < n → ∀ b1, b1 < a1 → ¬ (bq (nI s) (nI a1) ∧ bq (nI s) (nI b1) ∧ 0 < heF (mI m (q + 7)) a1 b1 (mI m q 4) nt))) s)), some (.int (nI s))] [] m 0 0 Q := by
  intro j
  induction j with
  | zero => intro s h1 h2; omega
  | succ j ih =>
    intro s h1 h2
    refine J_w z299 (i := 4) (by decide) 84 ?_
    have h64 := sh_n n hn6
    refine And.intro ⟨by omega, Nat.le_of_ble_eq_true rfl, Nat.le_refl _, Nat.le_refl _⟩ (And.intro (Wdo_142 hW) ?_)
    refine C294 hW hN hq ?_
    rw [hn, (sh_n n hn6).1, pk_sub (sh_n n hn6).2.1]
    refine And.intro (fun cz7 => ?_) (fun cz7 => ?_)
    · -- 7 taken: nI ((2 ^ n - 1)) < nI s
      have kz7 : (2 ^ n - 1) < s := klt (a := (2 ^ n - 1)) (b := s) rfl rfl (by omega) (by omega) cz7
      refine And.intro ⟨rfl, trivial, Nat.le_refl _, Nat.le_refl _⟩ ?_
      have h64 := sh_n n hn6
      rw [show s = 2 ^ n by omega]
      exact hQ
    · -- 7 not: ¬ nI ((2 ^ n - 1)) < nI s
      have kz7 : s ≤ (2 ^ n - 1) := knlt (a := (2 ^ n - 1)) (b := s) rfl rfl (by omega) (by omega) cz7
      refine And.intro (fun cz10 => ?_) (fun cz10 => ?_)
      · -- 10 taken: fhQ (fun s => (∀ t1, t1 < nt → ∀ s1, s1 < 5 → bq (mI m q 4) (nI s1) → wsF (mI m (q + 7)) (nI s) t1 s1 n = whF (mI m (q + 7)) t1 s1 n) ∧ (p = 0 ∨ ∀ a1, a1 < n → ∀ b1, b1 < a1 → ¬ (bq (nI s) (nI a1) ∧ bq (nI s) (nI b1) ∧ 0 < heF (mI m (q + 7)) a1 b1 (mI m q 4) nt))) s = -nI 2
        refine And.intro ⟨by omega, Nat.le_of_ble_eq_true rfl, Nat.le_refl _, Nat.le_refl _⟩ (And.intro (Wdo_142 hW) ?_)
        refine C297 (b := nI s) (by omega) hW hN h158 hq hn hn6 hnt hnt6 ?_
        refine And.intro (fun cz19 => ?_) (fun cz19 => ?_)
        · -- 19 taken: bi (∀ t1, t1 < nt → ∀ s1, s1 < 5 → bq (mI m q 4) (nI s1) → wsF (mI m (q + 7)) (nI s) t1 s1 n = whF (mI m (q + 7)) t1 s1 n) = 0
          show Jj sc d 0 0 (mth 299) (pg P299 4).1 [some (.ref 142), some (.int p), some (.int (fhQ (fun s => (∀ t1, t1 < nt → ∀ s1, s1 < 5 → bq (mI m q 4) (nI s1) → wsF (mI m (q + 7)) (nI s) t1 s1 n = whF (mI m (q + 7)) t1 s1 n) ∧ (p = 0 ∨ ∀ a1, a1 < n → ∀ b1, b1 < a1 → ¬ (bq (nI s) (nI a1) ∧ bq (nI s) (nI b1) ∧ 0 < heF (mI m (q + 7)) a1 b1 (mI m q 4) nt))) s)), some (.int (nI s + nI 1))] [] m 0 0 Q
          rw [show nI s + nI 1 = nI (s + 1) from by simp only [nI_add, pk_mul]]
          have w9 := ih (s + 1) (by omega) (by omega)
          rw [fhQ_s] at w9
          unfold fhS at w9
          rw [if_pos (Or.inl cz10), if_pos (bi_eq0.mpr (fun z => bi_eq0.mp cz19 z.1))] at w9
          exact w9
        · -- 19 not: ¬ bi (∀ t1, t1 < nt → ∀ s1, s1 < 5 → bq (mI m q 4) (nI s1) → wsF (mI m (q + 7)) (nI s) t1 s1 n = whF (mI m (q + 7)) t1 s1 n) = 0
          refine And.intro (fun cz21 => ?_) (fun cz21 => ?_)
          · -- 21 taken: p = 0
            show Jj sc d 0 0 (mth 299) (pg P299 4).1 [some (.ref 142), some (.int p), some (.int (nI s)), some (.int (nI s + nI 1))] [] m 0 0 Q
            rw [show nI s + nI 1 = nI (s + 1) from by simp only [nI_add, pk_mul]]
            have w9 := ih (s + 1) (by omega) (by omega)
            rw [fhQ_s] at w9
            unfold fhS at w9
            rw [if_pos (Or.inl cz10), if_neg (bi_ne0.mpr ⟨bi_ne0.mp cz19, Or.inl cz21⟩)] at w9
            exact w9
          · -- 21 not: ¬ p = 0
            refine And.intro ⟨by omega, Nat.le_of_ble_eq_true rfl, Nat.le_refl _, Nat.le_refl _⟩ (And.intro (Wdo_142 hW) ?_)
            refine C298 (b := nI s) (by omega) hW hN h158 hq hn hn6 hnt hnt6 ?_
            refine And.intro (fun cz25 => ?_) (fun cz25 => ?_)
            · -- 25 taken: ¬ bi (¬ ∀ a1, a1 < n → ∀ b1, b1 < a1 → ¬ (bq (nI s) (nI a1) ∧ bq (nI s) (nI b1) ∧ 0 < heF (mI m (q + 7)) a1 b1 (mI m q 4) nt)) = 0
              show Jj sc d 0 0 (mth 299) (pg P299 4).1 [some (.ref 142), some (.int p), some (.int (fhQ (fun s => (∀ t1, t1 < nt → ∀ s1, s1 < 5 → bq (mI m q 4) (nI s1) → wsF (mI m (q + 7)) (nI s) t1 s1 n = whF (mI m (q + 7)) t1 s1 n) ∧ (p = 0 ∨ ∀ a1, a1 < n → ∀ b1, b1 < a1 → ¬ (bq (nI s) (nI a1) ∧ bq (nI s) (nI b1) ∧ 0 < heF (mI m (q + 7)) a1 b1 (mI m q 4) nt))) s)), some (.int (nI s + nI 1))] [] m 0 0 Q
              rw [show nI s + nI 1 = nI (s + 1) from by simp only [nI_add, pk_mul]]
              have w9 := ih (s + 1) (by omega) (by omega)
              rw [fhQ_s] at w9
              unfold fhS at w9
              rw [if_pos (Or.inl cz10), if_pos (bi_eq0.mpr (fun z => z.2.elim cz21 (fun y => bi_ne0.mp cz25 y)))] at w9
              exact w9
            · -- 25 not: bi (¬ ∀ a1, a1 < n → ∀ b1, b1 < a1 → ¬ (bq (nI s) (nI a1) ∧ bq (nI s) (nI b1) ∧ 0 < heF (mI m (q + 7)) a1 b1 (mI m q 4) nt)) = 0
              show Jj sc d 0 0 (mth 299) (pg P299 4).1 [some (.ref 142), some (.int p), some (.int (nI s)), some (.int (nI s + nI 1))] [] m 0 0 Q
              rw [show nI s + nI 1 = nI (s + 1) from by simp only [nI_add, pk_mul]]
              have w9 := ih (s + 1) (by omega) (by omega)
              rw [fhQ_s] at w9
              unfold fhS at w9
              rw [if_pos (Or.inl cz10), if_neg (bi_ne0.mpr ⟨bi_ne0.mp cz19, Or.inr (Classical.byContradiction (bi_eq0.mp cz25))⟩)] at w9
              exact w9
      · -- 10 not: ¬ fhQ (fun s => (∀ t1, t1 < nt → ∀ s1, s1 < 5 → bq (mI m q 4) (nI s1) → wsF (mI m (q + 7)) (nI s) t1 s1 n = whF (mI m (q + 7)) t1 s1 n) ∧ (p = 0 ∨ ∀ a1, a1 < n → ∀ b1, b1 < a1 → ¬ (bq (nI s) (nI a1) ∧ bq (nI s) (nI b1) ∧ 0 < heF (mI m (q + 7)) a1 b1 (mI m q 4) nt))) s = -nI 2
        refine And.intro ⟨by omega, Nat.le_of_ble_eq_true rfl, Nat.le_refl _, Nat.le_refl _⟩ ?_
        refine C206 ?_
        refine And.intro ⟨by omega, Nat.le_of_ble_eq_true rfl, Nat.le_refl _, Nat.le_refl _⟩ ?_
        refine C206 ?_
        refine And.intro (fun cz15 => ?_) (fun cz15 => ?_)
        · -- 15 taken: bcF (fhQ (fun s => (∀ t1, t1 < nt → ∀ s1, s1 < 5 → bq (mI m q 4) (nI s1) → wsF (mI m (q + 7)) (nI s) t1 s1 n = whF (mI m (q + 7)) t1 s1 n) ∧ (p = 0 ∨ ∀ a1, a1 < n → ∀ b1, b1 < a1 → ¬ (bq (nI s) (nI a1) ∧ bq (nI s) (nI b1) ∧ 0 < heF (mI m (q + 7)) a1 b1 (mI m q 4) nt))) s) ≤ bcF (nI s)
          show Jj sc d 0 0 (mth 299) (pg P299 4).1 [some (.ref 142), some (.int p), some (.int (fhQ (fun s => (∀ t1, t1 < nt → ∀ s1, s1 < 5 → bq (mI m q 4) (nI s1) → wsF (mI m (q + 7)) (nI s) t1 s1 n = whF (mI m (q + 7)) t1 s1 n) ∧ (p = 0 ∨ ∀ a1, a1 < n → ∀ b1, b1 < a1 → ¬ (bq (nI s) (nI a1) ∧ bq (nI s) (nI b1) ∧ 0 < heF (mI m (q + 7)) a1 b1 (mI m q 4) nt))) s)), some (.int (nI s + nI 1))] [] m 0 0 Q
          rw [show nI s + nI 1 = nI (s + 1) from by simp only [nI_add, pk_mul]]
          have w9 := ih (s + 1) (by omega) (by omega)
          rw [fhQ_s] at w9
          unfold fhS at w9
          rw [if_neg (fun z => z.elim cz10 (fun y => absurd y (Int32.not_lt.mpr cz15)))] at w9
          exact w9
        · -- 15 not: ¬ bcF (fhQ (fun s => (∀ t1, t1 < nt → ∀ s1, s1 < 5 → bq (mI m q 4) (nI s1) → wsF (mI m (q + 7)) (nI s) t1 s1 n = whF (mI m (q + 7)) t1 s1 n) ∧ (p = 0 ∨ ∀ a1, a1 < n → ∀ b1, b1 < a1 → ¬ (bq (nI s) (nI a1) ∧ bq (nI s) (nI b1) ∧ 0 < heF (mI m (q + 7)) a1 b1 (mI m q 4) nt))) s) ≤ bcF (nI s)
          refine And.intro ⟨by omega, Nat.le_of_ble_eq_true rfl, Nat.le_refl _, Nat.le_refl _⟩ (And.intro (Wdo_142 hW) ?_)
          refine C297 (b := nI s) (by omega) hW hN h158 hq hn hn6 hnt hnt6 ?_
          refine And.intro (fun cz19 => ?_) (fun cz19 => ?_)
          · -- 19 taken: bi (∀ t1, t1 < nt → ∀ s1, s1 < 5 → bq (mI m q 4) (nI s1) → wsF (mI m (q + 7)) (nI s) t1 s1 n = whF (mI m (q + 7)) t1 s1 n) = 0
            show Jj sc d 0 0 (mth 299) (pg P299 4).1 [some (.ref 142), some (.int p), some (.int (fhQ (fun s => (∀ t1, t1 < nt → ∀ s1, s1 < 5 → bq (mI m q 4) (nI s1) → wsF (mI m (q + 7)) (nI s) t1 s1 n = whF (mI m (q + 7)) t1 s1 n) ∧ (p = 0 ∨ ∀ a1, a1 < n → ∀ b1, b1 < a1 → ¬ (bq (nI s) (nI a1) ∧ bq (nI s) (nI b1) ∧ 0 < heF (mI m (q + 7)) a1 b1 (mI m q 4) nt))) s)), some (.int (nI s + nI 1))] [] m 0 0 Q
            rw [show nI s + nI 1 = nI (s + 1) from by simp only [nI_add, pk_mul]]
            have w9 := ih (s + 1) (by omega) (by omega)
            rw [fhQ_s] at w9
            unfold fhS at w9
            rw [if_pos (Or.inr (Int32.not_le.mp cz15)), if_pos (bi_eq0.mpr (fun z => bi_eq0.mp cz19 z.1))] at w9
            exact w9
          · -- 19 not: ¬ bi (∀ t1, t1 < nt → ∀ s1, s1 < 5 → bq (mI m q 4) (nI s1) → wsF (mI m (q + 7)) (nI s) t1 s1 n = whF (mI m (q + 7)) t1 s1 n) = 0
            refine And.intro (fun cz21 => ?_) (fun cz21 => ?_)
            · -- 21 taken: p = 0
              show Jj sc d 0 0 (mth 299) (pg P299 4).1 [some (.ref 142), some (.int p), some (.int (nI s)), some (.int (nI s + nI 1))] [] m 0 0 Q
              rw [show nI s + nI 1 = nI (s + 1) from by simp only [nI_add, pk_mul]]
              have w9 := ih (s + 1) (by omega) (by omega)
              rw [fhQ_s] at w9
              unfold fhS at w9
              rw [if_pos (Or.inr (Int32.not_le.mp cz15)), if_neg (bi_ne0.mpr ⟨bi_ne0.mp cz19, Or.inl cz21⟩)] at w9
              exact w9
            · -- 21 not: ¬ p = 0
              refine And.intro ⟨by omega, Nat.le_of_ble_eq_true rfl, Nat.le_refl _, Nat.le_refl _⟩ (And.intro (Wdo_142 hW) ?_)
              refine C298 (b := nI s) (by omega) hW hN h158 hq hn hn6 hnt hnt6 ?_
              refine And.intro (fun cz25 => ?_) (fun cz25 => ?_)
              · -- 25 taken: ¬ bi (¬ ∀ a1, a1 < n → ∀ b1, b1 < a1 → ¬ (bq (nI s) (nI a1) ∧ bq (nI s) (nI b1) ∧ 0 < heF (mI m (q + 7)) a1 b1 (mI m q 4) nt)) = 0
                show Jj sc d 0 0 (mth 299) (pg P299 4).1 [some (.ref 142), some (.int p), some (.int (fhQ (fun s => (∀ t1, t1 < nt → ∀ s1, s1 < 5 → bq (mI m q 4) (nI s1) → wsF (mI m (q + 7)) (nI s) t1 s1 n = whF (mI m (q + 7)) t1 s1 n) ∧ (p = 0 ∨ ∀ a1, a1 < n → ∀ b1, b1 < a1 → ¬ (bq (nI s) (nI a1) ∧ bq (nI s) (nI b1) ∧ 0 < heF (mI m (q + 7)) a1 b1 (mI m q 4) nt))) s)), some (.int (nI s + nI 1))] [] m 0 0 Q
                rw [show nI s + nI 1 = nI (s + 1) from by simp only [nI_add, pk_mul]]
                have w9 := ih (s + 1) (by omega) (by omega)
                rw [fhQ_s] at w9
                unfold fhS at w9
                rw [if_pos (Or.inr (Int32.not_le.mp cz15)), if_pos (bi_eq0.mpr (fun z => z.2.elim cz21 (fun y => bi_ne0.mp cz25 y)))] at w9
                exact w9
              · -- 25 not: bi (¬ ∀ a1, a1 < n → ∀ b1, b1 < a1 → ¬ (bq (nI s) (nI a1) ∧ bq (nI s) (nI b1) ∧ 0 < heF (mI m (q + 7)) a1 b1 (mI m q 4) nt)) = 0
                show Jj sc d 0 0 (mth 299) (pg P299 4).1 [some (.ref 142), some (.int p), some (.int (nI s)), some (.int (nI s + nI 1))] [] m 0 0 Q
                rw [show nI s + nI 1 = nI (s + 1) from by simp only [nI_add, pk_mul]]
                have w9 := ih (s + 1) (by omega) (by omega)
                rw [fhQ_s] at w9
                unfold fhS at w9
                rw [if_pos (Or.inr (Int32.not_le.mp cz15)), if_neg (bi_ne0.mpr ⟨bi_ne0.mp cz19, Or.inr (Classical.byContradiction (bi_eq0.mp cz25))⟩)] at w9
                exact w9
theorem C299 {d : Nat} {m : Mm} {Q : Option Value → Mm → Prop} {q n nt : Nat} (hd : 4 ≤ d) (hW : Wd m.2.2) (hN : NW m.2.2 q) (h158 : 158 ≤ q) (hq : va_rf (mR m 142 3) = .ref q) (hn : mI m q 6 = nI n) (hn6 : n ≤ 6) (hnt : mI m q 5 = nI nt) (hnt6 : nt ≤ 6) {p : Int32} (hQ : Q (some (.int (fhQ (fun s => (∀ t1, t1 < nt → ∀ s1, s1 < 5 → bq (mI m q 4) (nI s1) → wsF (mI m (q + 7)) (nI s) t1 s1 n = whF (mI m (q + 7)) t1 s1 n) ∧ (p = 0 ∨ ∀ a1, a1 < n → ∀ b1, b1 < a1 → ¬ (bq (nI s) (nI a1) ∧ bq (nI s) (nI b1) ∧ 0 < heF (mI m (q + 7)) a1 b1 (mI m q 4) nt))) (2 ^ n)))) m)  : Cc d 0 0 299 [.ref 142, .int p] m Q := by
  refine ent (n := 84) z299 (by decide) rfl (by decide) (Nat.le_of_ble_eq_true rfl) (fun sc => ?_)
  show Jj sc d 0 0 (mth 299) (pg P299 4).1 [some (.ref 142), some (.int p), some (.int (-nI 2)), some (.int (nI 0))] [] m 0 0 Q
  exact lfw (by omega) hW hN h158 hq hn hn6 hnt hnt6 hQ (2 ^ n + 1) 0 (Nat.zero_le _) (by omega)
theorem P_keep {d : Nat} {m : Mm} {Q : Option Value → Mm → Prop} {z : Nat} (hd : 16 ≤ d) (hR : Rel z m) (h : ∀ (r : Int32) m1, Wd m1.2.2 → (∀ Q2 : Option Value → Mm → Prop, (∀ m2, Rel z m2 → Q2 (some (.int r)) m2) → Cc d 0 0 300 [.ref 142] m1 Q2) → Q (some (.int r)) m1) : Cc d 0 0 148 [.ref 0] m Q := by
  obtain ⟨hW, hz, hS, a, b, hA, hX⟩ := id hR
  obtain ⟨hL, hLb, hab, ha, hb⟩ := RelA_L hW hA
  obtain ⟨n2r, hn2, bn2, ln2⟩ := RL_n (s := 2) (f := 5) hX.2.2.1 (by decide) (fun _ _ h => h.2.2.2.2.2.1)
  change n2r ≤ 6 at bn2
  obtain ⟨n4r, hn4, bn4, ln4⟩ := RL_n (s := 4) (f := 6) hX.2.2.1 (by decide) (fun _ _ h => h.2.2.2.2.2.2.1)
  change n4r ≤ 6 at bn4
  obtain ⟨n8r, hn8, bn8, ln8⟩ := RL_n (s := 8) (f := 10) hX.2.2.1 (by decide) (fun _ _ h => h.2.2.2.2.2.2.2.2.2.2.1)
  change n8r ≤ 8 at bn8
  obtain ⟨n10r, hn10, bn10, ln10⟩ := RL_n (s := 10) (f := 12) hX.2.2.1 (by decide) (fun _ _ h => h.2.2.2.2.2.2.2.2.2.2.2.2.1)
  change n10r ≤ 4 at bn10
  rcases RL_st hX.2.2.1 with ⟨hL0, hst0⟩ | ⟨q, hq1, hst0⟩
  · skip
    refine ent (n := 50) z148 (by decide) rfl (by decide) (Nat.le_of_ble_eq_true rfl) (fun sc => ?_)
    refine And.intro (Wdo_0 hW) (Exists.intro _ (And.intro ha ?_))
    refine And.intro ⟨by omega, Nat.le_of_ble_eq_true rfl, Nat.le_refl _, Nat.le_refl _⟩ (And.intro (LWo_0 hL) ?_)
    refine C21 hL ?_
    refine And.intro (fun cz3 => ?_) (fun cz3 => False.elim (absurd (bi_ne0.mp cz3) (hst0)))
    refine And.intro ⟨by omega, Nat.le_of_ble_eq_true rfl, Nat.le_refl _, Nat.le_refl _⟩ (And.intro (Wdo_0 hW) ?_)
    refine C176 hW ?_
    refine And.intro ⟨rfl, trivial, Nat.le_refl _, Nat.le_refl _⟩ ?_
    refine h _ _ hW (fun Q2 h2 => ?_)
    refine ent (n := 52) z300 (by decide) rfl (by decide) (Nat.le_of_ble_eq_true rfl) (fun sc2 => ?_)
    refine And.intro (Wdo_142 hW) ?_
    refine And.intro (Wdo_142 hW) (Exists.intro _ (And.intro (show va_rf (mR m 142 3) = .null by rw [hL0.1]; rfl) ?_))
    refine And.intro ⟨by omega, Nat.le_of_ble_eq_true rfl, Nat.le_refl _, Nat.le_refl _⟩ (And.intro (Wdo_142 hW) ?_)
    refine C200 (m := (uI (uI m 0 0 (nI 1)) 142 0 (nI 0))) hW ?_
    refine And.intro ⟨rfl, trivial, Nat.le_refl _, Nat.le_refl _⟩ ?_
    exact h2 _ (Rel_ans hR (by decide))
  · skip
    obtain ⟨hq, w, u, ha0, ha1, hq0, hq1w, hw6, hu4, hwu, hgr⟩ := RL_q hq1
    obtain ⟨h158, hqz, hN, h3, ⟨T, hI⟩, hst, hla, hLQ, hSR⟩ := hq1
    have hq6 : mI m q 6 = nI n4r := hLQ.1.2.2.2.2.2.2.1.trans hn4
    have hq5 : mI m q 5 = nI n2r := hLQ.1.2.2.2.2.2.1.trans hn2
    refine ent (n := 50) z148 (by decide) rfl (by decide) (Nat.le_of_ble_eq_true rfl) (fun sc => ?_)
    refine And.intro (Wdo_0 hW) (Exists.intro _ (And.intro ha ?_))
    refine And.intro ⟨by omega, Nat.le_of_ble_eq_true rfl, Nat.le_refl _, Nat.le_refl _⟩ (And.intro (LWo_0 hL) ?_)
    refine C21 hL ?_
    refine And.intro (fun cz3 => False.elim (absurd (hst0) (bi_eq0.mp cz3))) (fun cz3 => ?_)
    refine And.intro (Wdo_0 hW) (Exists.intro _ (And.intro ha ?_))
    refine And.intro ⟨by omega, Nat.le_of_ble_eq_true rfl, Nat.le_refl _, Nat.le_refl _⟩ ?_
    refine C42 (by omega) hL ha0 ha1 hwu hn2 (by omega) hn4 (by omega) (sh_n n4r (by omega)).1 (sh_n n4r (by omega)).2.2 ?_
    refine And.intro ⟨by omega, Nat.le_of_ble_eq_true rfl, Nat.le_refl _, Nat.le_refl _⟩ (And.intro (Wdo_0 hW) ?_)
    refine C177 hW ?_
    refine And.intro ⟨rfl, trivial, Nat.le_refl _, Nat.le_refl _⟩ ?_
    refine h _ _ hW (fun Q2 h2 => ?_)
    refine ent (n := 52) z300 (by decide) rfl (by decide) (Nat.le_of_ble_eq_true rfl) (fun sc2 => ?_)
    refine And.intro (Wdo_142 hW) ?_
    refine And.intro (Wdo_142 hW) (Exists.intro _ (And.intro hq ?_))
    refine And.intro ⟨by omega, Nat.le_of_ble_eq_true rfl, Nat.le_refl _, Nat.le_refl _⟩ (And.intro (Wdo_142 hW) ?_)
    refine C299 (m := (uI (uI m 0 0 (nI 0)) 142 0 (nI 0))) (p := nI 0) (by omega) hW hN h158 hq (show mI (uI (uI m 0 0 (nI 0)) 142 0 (nI 0)) q 6 = nI n4r by rw [uI_ne (by omega), uI_ne (by omega)]; exact hq6) (by omega) (show mI (uI (uI m 0 0 (nI 0)) 142 0 (nI 0)) q 5 = nI n2r by rw [uI_ne (by omega), uI_ne (by omega)]; exact hq5) (by omega) ?_
    rw [uI_ne (m := (uI m 0 0 (nI 0))) (a := 142) (b := q) (by omega)]
    rw [uI_ne (m := (uI m 0 0 (nI 0))) (a := 142) (b := (q + 7)) (by omega)]
    rw [uI_ne (m := m) (a := 0) (b := q) (by omega)]
    rw [uI_ne (m := m) (a := 0) (b := (q + 7)) (by omega)]
    refine And.intro ⟨by omega, Nat.le_of_ble_eq_true rfl, Nat.le_refl _, Nat.le_refl _⟩ (And.intro (Wdo_142 hW) ?_)
    refine C202 (m := (uI (uI m 0 0 (nI 0)) 142 0 (nI 0))) hW ?_
    refine And.intro ⟨rfl, trivial, Nat.le_refl _, Nat.le_refl _⟩ ?_
    refine (congrArg (fun y9 => Q2 (some (.int y9)) _) (fhQ_c (fun s hs => ?_))).mpr (h2 _ (Rel_ans hR (by decide)))
    rw [hgr]
    exact ke_e (by omega) (by omega) hLQ.2.2.2.2.2.1
theorem P_once {d : Nat} {m : Mm} {Q : Option Value → Mm → Prop} {z : Nat} (hd : 16 ≤ d) (hR : Rel z m) (h : ∀ (r : Int32) m1, Wd m1.2.2 → (∀ Q2 : Option Value → Mm → Prop, (∀ m2, Rel z m2 → Q2 (some (.int r)) m2) → Cc d 0 0 301 [.ref 142] m1 Q2) → Q (some (.int r)) m1) : Cc d 0 0 149 [.ref 0] m Q := by
  obtain ⟨hW, hz, hS, a, b, hA, hX⟩ := id hR
  obtain ⟨hL, hLb, hab, ha, hb⟩ := RelA_L hW hA
  obtain ⟨n2r, hn2, bn2, ln2⟩ := RL_n (s := 2) (f := 5) hX.2.2.1 (by decide) (fun _ _ h => h.2.2.2.2.2.1)
  change n2r ≤ 6 at bn2
  obtain ⟨n4r, hn4, bn4, ln4⟩ := RL_n (s := 4) (f := 6) hX.2.2.1 (by decide) (fun _ _ h => h.2.2.2.2.2.2.1)
  change n4r ≤ 6 at bn4
  obtain ⟨n8r, hn8, bn8, ln8⟩ := RL_n (s := 8) (f := 10) hX.2.2.1 (by decide) (fun _ _ h => h.2.2.2.2.2.2.2.2.2.2.1)
  change n8r ≤ 8 at bn8
  obtain ⟨n10r, hn10, bn10, ln10⟩ := RL_n (s := 10) (f := 12) hX.2.2.1 (by decide) (fun _ _ h => h.2.2.2.2.2.2.2.2.2.2.2.2.1)
  change n10r ≤ 4 at bn10
  rcases RL_st hX.2.2.1 with ⟨hL0, hst0⟩ | ⟨q, hq1, hst0⟩
  · skip
    refine ent (n := 50) z149 (by decide) rfl (by decide) (Nat.le_of_ble_eq_true rfl) (fun sc => ?_)
    refine And.intro (Wdo_0 hW) (Exists.intro _ (And.intro ha ?_))
    refine And.intro ⟨by omega, Nat.le_of_ble_eq_true rfl, Nat.le_refl _, Nat.le_refl _⟩ (And.intro (LWo_0 hL) ?_)
    refine C21 hL ?_
    refine And.intro (fun cz3 => ?_) (fun cz3 => False.elim (absurd (bi_ne0.mp cz3) (hst0)))
    refine And.intro ⟨by omega, Nat.le_of_ble_eq_true rfl, Nat.le_refl _, Nat.le_refl _⟩ (And.intro (Wdo_0 hW) ?_)
    refine C176 hW ?_
    refine And.intro ⟨rfl, trivial, Nat.le_refl _, Nat.le_refl _⟩ ?_
    refine h _ _ hW (fun Q2 h2 => ?_)
    refine ent (n := 52) z301 (by decide) rfl (by decide) (Nat.le_of_ble_eq_true rfl) (fun sc2 => ?_)
    refine And.intro (Wdo_142 hW) ?_
    refine And.intro (Wdo_142 hW) (Exists.intro _ (And.intro (show va_rf (mR m 142 3) = .null by rw [hL0.1]; rfl) ?_))
    refine And.intro ⟨by omega, Nat.le_of_ble_eq_true rfl, Nat.le_refl _, Nat.le_refl _⟩ (And.intro (Wdo_142 hW) ?_)
    refine C200 (m := (uI (uI m 0 0 (nI 1)) 142 0 (nI 0))) hW ?_
    refine And.intro ⟨rfl, trivial, Nat.le_refl _, Nat.le_refl _⟩ ?_
    exact h2 _ (Rel_ans hR (by decide))
  · skip
    obtain ⟨hq, w, u, ha0, ha1, hq0, hq1w, hw6, hu4, hwu, hgr⟩ := RL_q hq1
    obtain ⟨h158, hqz, hN, h3, ⟨T, hI⟩, hst, hla, hLQ, hSR⟩ := hq1
    have hq6 : mI m q 6 = nI n4r := hLQ.1.2.2.2.2.2.2.1.trans hn4
    have hq5 : mI m q 5 = nI n2r := hLQ.1.2.2.2.2.2.1.trans hn2
    refine ent (n := 50) z149 (by decide) rfl (by decide) (Nat.le_of_ble_eq_true rfl) (fun sc => ?_)
    refine And.intro (Wdo_0 hW) (Exists.intro _ (And.intro ha ?_))
    refine And.intro ⟨by omega, Nat.le_of_ble_eq_true rfl, Nat.le_refl _, Nat.le_refl _⟩ (And.intro (LWo_0 hL) ?_)
    refine C21 hL ?_
    refine And.intro (fun cz3 => False.elim (absurd (hst0) (bi_eq0.mp cz3))) (fun cz3 => ?_)
    refine And.intro (Wdo_0 hW) (Exists.intro _ (And.intro ha ?_))
    refine And.intro ⟨by omega, Nat.le_of_ble_eq_true rfl, Nat.le_refl _, Nat.le_refl _⟩ ?_
    refine C42 (by omega) hL ha0 ha1 hwu hn2 (by omega) hn4 (by omega) (sh_n n4r (by omega)).1 (sh_n n4r (by omega)).2.2 ?_
    refine And.intro ⟨by omega, Nat.le_of_ble_eq_true rfl, Nat.le_refl _, Nat.le_refl _⟩ (And.intro (Wdo_0 hW) ?_)
    refine C177 hW ?_
    refine And.intro ⟨rfl, trivial, Nat.le_refl _, Nat.le_refl _⟩ ?_
    refine h _ _ hW (fun Q2 h2 => ?_)
    refine ent (n := 52) z301 (by decide) rfl (by decide) (Nat.le_of_ble_eq_true rfl) (fun sc2 => ?_)
    refine And.intro (Wdo_142 hW) ?_
    refine And.intro (Wdo_142 hW) (Exists.intro _ (And.intro hq ?_))
    refine And.intro ⟨by omega, Nat.le_of_ble_eq_true rfl, Nat.le_refl _, Nat.le_refl _⟩ (And.intro (Wdo_142 hW) ?_)
    refine C299 (m := (uI (uI m 0 0 (nI 0)) 142 0 (nI 0))) (p := nI 1) (by omega) hW hN h158 hq (show mI (uI (uI m 0 0 (nI 0)) 142 0 (nI 0)) q 6 = nI n4r by rw [uI_ne (by omega), uI_ne (by omega)]; exact hq6) (by omega) (show mI (uI (uI m 0 0 (nI 0)) 142 0 (nI 0)) q 5 = nI n2r by rw [uI_ne (by omega), uI_ne (by omega)]; exact hq5) (by omega) ?_
    rw [uI_ne (m := (uI m 0 0 (nI 0))) (a := 142) (b := q) (by omega)]
    rw [uI_ne (m := (uI m 0 0 (nI 0))) (a := 142) (b := (q + 7)) (by omega)]
    rw [uI_ne (m := m) (a := 0) (b := q) (by omega)]
    rw [uI_ne (m := m) (a := 0) (b := (q + 7)) (by omega)]
    refine And.intro ⟨by omega, Nat.le_of_ble_eq_true rfl, Nat.le_refl _, Nat.le_refl _⟩ (And.intro (Wdo_142 hW) ?_)
    refine C202 (m := (uI (uI m 0 0 (nI 0)) 142 0 (nI 0))) hW ?_
    refine And.intro ⟨rfl, trivial, Nat.le_refl _, Nat.le_refl _⟩ ?_
    refine (congrArg (fun y9 => Q2 (some (.int y9)) _) (fhQ_c (fun s hs => ?_))).mpr (h2 _ (Rel_ans hR (by decide)))
    rw [hgr]
    exact ke_e (by omega) (by omega) hLQ.2.2.2.2.2.1
