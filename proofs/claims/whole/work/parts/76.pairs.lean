theorem sm_32 : ∀ g, g < 32 → ((nI g &&& 31).toBitVec.smod 32).toNat = g := by decide +kernel
theorem bqg {x : Int32} {g : Nat} (hg : g < 32) : bq x (nI g) ↔ x.toBitVec.getLsbD g = true := by
  have ez1 : (x >>> (nI g &&& 31)).toBitVec = x.toBitVec.sshiftRight g := by
    rw [Int32.toBitVec_shiftRight]
    show x.toBitVec.sshiftRight ((nI g &&& 31).toBitVec.smod 32).toNat = _
    rw [sm_32 g hg]
  have ez2 : (x.toBitVec.sshiftRight g).getLsbD 0 = x.toBitVec.getLsbD g := by
    rw [BitVec.getLsbD_sshiftRight]
    simp [hg]
  have ez3 : ∀ y : BitVec 32, (y &&& 1#32 = 1#32) ↔ y.getLsbD 0 = true := by
    intro y
    have h : (y &&& 1#32).toNat = y.toNat % 2 := by
      rw [BitVec.toNat_and]
      show y.toNat &&& 1 = _
      exact Nat.and_one_is_mod _
    constructor
    · intro z
      rw [z] at h
      show y.toNat.testBit 0 = true
      rw [Nat.testBit_zero]
      exact decide_eq_true h.symm
    · intro z
      apply BitVec.eq_of_toNat_eq
      rw [h]
      have : y.toNat.testBit 0 = true := z
      rw [Nat.testBit_zero] at this
      exact of_decide_eq_true this
  rw [← ez2, ← ez1]
  refine Iff.trans ?_ (ez3 _)
  show x >>> (nI g &&& 31) &&& nI 1 = nI 1 ↔ _
  constructor
  · intro z
    have := congrArg Int32.toBitVec z
    rw [Int32.toBitVec_and] at this
    exact this
  · intro z
    apply Int32.toBitVec_inj.mp
    rw [Int32.toBitVec_and]
    exact z
theorem bq_and {x y : Int32} {g : Nat} (hg : g < 32) : bq (x &&& y) (nI g) ↔ bq x (nI g) ∧ bq y (nI g) := by
  rw [bqg hg, bqg hg, bqg hg, Int32.toBitVec_and, BitVec.getLsbD_and, Bool.and_eq_true]
theorem bq_or {x y : Int32} {g : Nat} (hg : g < 32) : bq (x ||| y) (nI g) ↔ bq x (nI g) ∨ bq y (nI g) := by
  rw [bqg hg, bqg hg, bqg hg, Int32.toBitVec_or, BitVec.getLsbD_or, Bool.or_eq_true]
theorem bq_not {x : Int32} {g : Nat} (hg : g < 32) : bq (x ^^^ -nI 1) (nI g) ↔ ¬ bq x (nI g) := by
  have h1 : (-nI 1 : Int32).toBitVec = BitVec.allOnes 32 := by decide +kernel
  rw [bqg hg, bqg hg, Int32.toBitVec_xor, h1, BitVec.getLsbD_xor, BitVec.getLsbD_allOnes]
  simp [hg]
theorem bq_1 : ∀ i, i < 32 → ∀ g, g < 32 → (bq (nI 1 <<< (nI i &&& 31)) (nI g) ↔ g = i) := by decide +kernel
theorem bq_a : ∀ n, n < 9 → ∀ g, g < 32 → (bq (nI 1 <<< (nI n &&& 31) - nI 1) (nI g) ↔ g < n) := by decide +kernel
theorem bq_0 : ∀ g, g < 32 → ¬ bq (nI 0) (nI g) := by decide +kernel
theorem bq_ext {x y : Int32} (h : ∀ g, g < 32 → (bq x (nI g) ↔ bq y (nI g))) : x = y := by
  apply Int32.toBitVec_inj.mp
  apply BitVec.eq_of_getLsbD_eq
  intro i hi
  have := h i hi
  rw [bqg hi, bqg hi] at this
  exact Bool.eq_iff_iff.mpr this

theorem bq_ho {f : Nat → Int32} {t s : Nat} {h : Int32} {g : Nat} (hg : g < 32) : ∀ n, n ≤ 32 → (bq (hoF f t s h n) (nI g) ↔ g < n ∧ bq (f ((g * 6 + t) * 5 + s)) h)
  | 0, _ => ⟨fun z => absurd z (bq_0 g hg), fun z => absurd z.1 (Nat.not_lt_zero _)⟩
  | n + 1, hn => by
    have ih := bq_ho (f := f) (t := t) (s := s) (h := h) hg n (by omega)
    have e : hoF f t s h (n + 1) = if bq (f ((n * 6 + t) * 5 + s)) h then hoF f t s h n ||| nI 1 <<< (nI n &&& 31) else hoF f t s h n := fo_s
    rw [e]
    by_cases hp : bq (f ((n * 6 + t) * 5 + s)) h
    · rw [if_pos hp, bq_or hg, ih, bq_1 n (by omega) g hg]
      refine ⟨fun z => z.elim (fun y => ⟨by omega, y.2⟩) (fun y => ⟨by omega, y ▸ hp⟩), fun z => ?_⟩
      by_cases eg : g = n
      · exact Or.inr eg
      · exact Or.inl ⟨by omega, z.2⟩
    · rw [if_neg hp, ih]
      refine ⟨fun z => ⟨by omega, z.2⟩, fun z => ?_⟩
      by_cases eg : g = n
      · rw [eg] at z
        exact absurd z.2 hp
      · exact ⟨by omega, z.2⟩
theorem bq_ft {sn off : Nat → Int32} {ns g : Nat} (hg : g < 32) : ∀ n, n ≤ 32 → (bq (ftQ sn off ns n) (nI g) ↔ g < n ∧ fiP sn off ns g)
  | 0, _ => ⟨fun z => absurd z (bq_0 g hg), fun z => absurd z.1 (Nat.not_lt_zero _)⟩
  | n + 1, hn => by
    have ih := bq_ft (sn := sn) (off := off) (ns := ns) hg n (by omega)
    have e : ftQ sn off ns (n + 1) = if bi (fiP sn off ns n) = 0 then ftQ sn off ns n else ftQ sn off ns n ||| nI 1 <<< (nI n &&& 31) := fo_s
    rw [e]
    by_cases hp : fiP sn off ns n
    · rw [if_neg (bi_ne0.mpr hp), bq_or hg, ih, bq_1 n (by omega) g hg]
      refine ⟨fun z => z.elim (fun y => ⟨by omega, y.2⟩) (fun y => ⟨by omega, y ▸ hp⟩), fun z => ?_⟩
      by_cases eg : g = n
      · exact Or.inr eg
      · exact Or.inl ⟨by omega, z.2⟩
    · rw [if_pos (bi_eq0.mpr hp), ih]
      refine ⟨fun z => ⟨by omega, z.2⟩, fun z => ?_⟩
      by_cases eg : g = n
      · rw [eg] at z
        exact absurd z.2 hp
      · exact ⟨by omega, z.2⟩
def rfS (off th so ho ye : Nat → Int32) (n : Nat) : Nat → Int32 → Int32 := fun i y => if ye i = 0 then y &&& (hoF off (nv (th i)) (nv (so i)) (ho i) n ^^^ -nI 1) else y &&& hoF off (nv (th i)) (nv (so i)) (ho i) n
def rfQ (off th so ho ye : Nat → Int32) (n i : Nat) : Int32 := fo (rfS off th so ho ye n) (nI 1 <<< (nI n &&& 31) - nI 1) i
theorem bq_rf {off th so ho ye : Nat → Int32} {n g : Nat} (hn : n < 9) (hg : g < 32) : ∀ i, bq (rfQ off th so ho ye n i) (nI g) ↔ g < n ∧ ∀ j, j < i → (bq (off ((g * 6 + nv (th j)) * 5 + nv (so j))) (ho j) ↔ ¬ ye j = 0)
  | 0 => by
    rw [show rfQ off th so ho ye n 0 = nI 1 <<< (nI n &&& 31) - nI 1 from rfl, bq_a n hn g hg]
    exact ⟨fun z => ⟨z, fun j hj => absurd hj (Nat.not_lt_zero _)⟩, fun z => z.1⟩
  | i + 1 => by
    have ih := bq_rf (off := off) (th := th) (so := so) (ho := ho) (ye := ye) hn hg i
    have hb := bq_ho (f := off) (t := nv (th i)) (s := nv (so i)) (h := ho i) hg n (by omega)
    rw [show rfQ off th so ho ye n (i + 1) = rfS off th so ho ye n i (rfQ off th so ho ye n i) from fo_s]
    unfold rfS
    have hs : (∀ j, j < i + 1 → (bq (off ((g * 6 + nv (th j)) * 5 + nv (so j))) (ho j) ↔ ¬ ye j = 0)) ↔ (∀ j, j < i → (bq (off ((g * 6 + nv (th j)) * 5 + nv (so j))) (ho j) ↔ ¬ ye j = 0)) ∧ (bq (off ((g * 6 + nv (th i)) * 5 + nv (so i))) (ho i) ↔ ¬ ye i = 0) := by
      refine ⟨fun z => ⟨fun j hj => z j (by omega), z i (by omega)⟩, fun z j hj => ?_⟩
      by_cases e : j = i
      · rw [e]; exact z.2
      · exact z.1 j (by omega)
    by_cases hy : ye i = 0
    · rw [if_pos hy, bq_and hg, bq_not hg, ih, hb, hs]
      refine ⟨fun z => ⟨z.1.1, z.1.2, ⟨fun y => absurd ⟨z.1.1, y⟩ z.2, fun y => absurd hy y⟩⟩, fun z => ⟨⟨z.1, z.2.1⟩, fun y => z.2.2.mp y.2 hy⟩⟩
    · rw [if_neg hy, bq_and hg, ih, hb, hs]
      exact ⟨fun z => ⟨z.1.1, z.1.2, ⟨fun _ => hy, fun _ => z.2.2⟩⟩, fun z => ⟨⟨z.1, z.2.1⟩, z.1, z.2.2.mpr hy⟩⟩
theorem fit_e {off off2 th so ho ye sn : Nat → Int32} {n ns : Nat} (hn : n ≤ 6) (he : ∀ x, x < 180 → off x = off2 x) (hs : ∀ i, i < ns → th i = sn (i * 4) ∧ so i = sn (i * 4 + 1) ∧ ho i = sn (i * 4 + 2) ∧ ye i = sn (i * 4 + 3)) (hr : ∀ i, i < ns → iR (sn (i * 4)) 6 ∧ iR (sn (i * 4 + 1)) 5 ∧ iR (sn (i * 4 + 3)) 2) : rfQ off th so ho ye n ns = ftQ sn off2 ns n := by
  refine bq_ext (fun g hg => ?_)
  rw [bq_rf (by omega) hg, bq_ft hg n (by omega)]
  refine and_congr_right (fun hgn => ?_)
  have key : ∀ i, i < ns → ((bq (off ((g * 6 + nv (th i)) * 5 + nv (so i))) (ho i) ↔ ¬ ye i = 0) ↔ siP sn off2 g i) := fun i hi => by
    obtain ⟨ez1, ez2, ez3, ez4⟩ := hs i hi
    obtain ⟨⟨a, ha, ea⟩, ⟨b, hb, eb⟩, ⟨y, hy, ey⟩⟩ := hr i hi
    have na : nv (th i) = a := by rw [ez1, ea, nv_nI (by omega)]
    have nb : nv (so i) = b := by rw [ez2, eb, nv_nI (by omega)]
    unfold siP
    rw [na, nb, show nv (sn (i * 4)) = a by rw [ea, nv_nI (by omega)], show nv (sn (i * 4 + 1)) = b by rw [eb, nv_nI (by omega)], he _ (by omega), ez3, ez4, ey]
    have hyy : (¬ nI y = 0) ↔ nI y = nI 1 := by
      have : y = 0 ∨ y = 1 := by omega
      rcases this with rfl | rfl
      · decide
      · decide
    rw [hyy]
  exact ⟨fun z i hi => (key i hi).mp (z i hi), fun z i hi => (key i hi).mpr (z i hi)⟩
theorem iR_nv {x : Int32} {w : Nat} (h : iR x w) (hw : w < 2 ^ 31) : x = nI (nv x) := by
  obtain ⟨y, hy, e⟩ := h
  rw [e, nv_nI (by omega)]
theorem iR_lt {x : Int32} {w : Nat} (h : iR x w) (hw : w < 2 ^ 31) : nv x < w := by
  obtain ⟨y, hy, e⟩ := h
  rw [e, nv_nI (by omega)]
  exact hy
theorem lfit {sc : Nat × (Nat → Int32)} {d : Nat} {m : Mm} {Q : Option Value → Mm → Prop} {q n nt ns : Nat} (hd : 3 ≤ d) (hW : Wd m.2.2) (hN : NW m.2.2 q) (h158 : 158 ≤ q) (hq : va_rf (mR m 142 3) = .ref q) (hn : mI m q 6 = nI n) (hn6 : n ≤ 6) (hnt : mI m q 5 = nI nt) (hnt6 : nt ≤ 6) (hns : mI m q 14 = nI ns) (hns8 : ns ≤ 8) (hse : ∀ i, i < ns → iR (mI m (q + 22) i) 6 ∧ iR (mI m (q + 23) i) 5) (hQ : Q (some (.int (rfQ (mI m (q + 7)) (mI m (q + 22)) (mI m (q + 23)) (mI m (q + 24)) (mI m (q + 25)) n ns))) m)  : ∀ (j i : Nat), i ≤ ns → ns + 1 ≤ i + j → Jj sc d 0 0 (mth 316) (pg P316 5).1 [some (.ref 142), some (.int (rfQ (mI m (q + 7)) (mI m (q + 22)) (mI m (q + 23)) (mI m (q + 24)) (mI m (q + 25)) n i)), some (.int (nI i)), none] [] m 0 0 Q := by
  intro j
  induction j with
  | zero => intro i h1 h2; omega
  | succ j ih =>
    intro i h1 h2
    refine J_w z316 (i := 5) (by decide) 112 ?_
    refine And.intro (Wdo_142 hW) (Exists.intro _ (And.intro hq ?_))
    refine And.intro (NWo_0 hN) ?_
    rw [hns]
    refine And.intro (fun cz9 => ?_) (fun cz9 => ?_)
    · -- 9 taken: nI ns ≤ nI i
      have kz9 : ns ≤ i := kle (a := ns) (b := i) rfl rfl (by omega) (by omega) cz9
      refine And.intro ⟨rfl, trivial, Nat.le_refl _, Nat.le_refl _⟩ ?_
      rw [show i = ns by omega]
      exact hQ
    · -- 9 not: ¬ nI ns ≤ nI i
      have kz9 : i < ns := knle (a := ns) (b := i) rfl rfl (by omega) (by omega) cz9
      refine And.intro (Wdo_142 hW) (Exists.intro _ (And.intro hq ?_))
      refine And.intro (NWo_0 hN) (Exists.intro _ (And.intro (NWr_0_38 hN) ?_))
      refine And.intro (NWi_22 hN (vi rfl (by omega))) ?_
      rw [nI_clamp (show i < 2 ^ 31 by omega)]
      refine And.intro (Wdo_142 hW) (Exists.intro _ (And.intro hq ?_))
      refine And.intro (NWo_0 hN) (Exists.intro _ (And.intro (NWr_0_39 hN) ?_))
      refine And.intro (NWi_23 hN (vi rfl (by omega))) ?_
      rw [nI_clamp (show i < 2 ^ 31 by omega)]
      refine And.intro (Wdo_142 hW) (Exists.intro _ (And.intro hq ?_))
      refine And.intro (NWo_0 hN) (Exists.intro _ (And.intro (NWr_0_40 hN) ?_))
      refine And.intro (NWi_24 hN (vi rfl (by omega))) ?_
      rw [nI_clamp (show i < 2 ^ 31 by omega)]
      refine And.intro ⟨by omega, Nat.le_of_ble_eq_true rfl, Nat.le_refl _, Nat.le_refl _⟩ (And.intro (Wdo_142 hW) ?_)
      have iv := hse i kz9
      have ta : mI m (q + 22) i = nI (nv (mI m (q + 22) i)) := iR_nv iv.1 (by decide)
      have tb9 : mI m (q + 23) i = nI (nv (mI m (q + 23) i)) := iR_nv iv.2 (by decide)
      have la : (nv (mI m (q + 22) i)) < 6 := iR_lt iv.1 (by decide)
      have lb : (nv (mI m (q + 23) i)) < 5 := iR_lt iv.2 (by decide)
      rw [ta, tb9]
      refine C258 (t := (nv (mI m (q + 22) i))) (s := (nv (mI m (q + 23) i))) (by omega) hW hN h158 hq hn hn6 hnt hnt6 la lb ?_
      refine And.intro (Wdo_142 hW) (Exists.intro _ (And.intro hq ?_))
      refine And.intro (NWo_0 hN) (Exists.intro _ (And.intro (NWr_0_41 hN) ?_))
      refine And.intro (NWi_25 hN (vi rfl (by omega))) ?_
      rw [nI_clamp (show i < 2 ^ 31 by omega)]
      refine And.intro (fun cz34 => ?_) (fun cz34 => ?_)
      · -- 34 taken: mI m (q + 25) i = 0
        show Jj sc d 0 0 (mth 316) (pg P316 5).1 [some (.ref 142), some (.int ((rfQ (mI m (q + 7)) (mI m (q + 22)) (mI m (q + 23)) (mI m (q + 24)) (mI m (q + 25)) n i) &&& ((hoF (mI m (q + 7)) (nv (mI m (q + 22) i)) (nv (mI m (q + 23) i)) (mI m (q + 24) i) n) ^^^ (-nI 1)))), some (.int (nI i + nI 1)), some (.int (hoF (mI m (q + 7)) (nv (mI m (q + 22) i)) (nv (mI m (q + 23) i)) (mI m (q + 24) i) n))] [] m 0 0 Q
        rw [show nI i + nI 1 = nI (i + 1) from by simp only [nI_add, pk_mul]]
        refine J_wk (L' := [some (.ref 142), some (.int ((rfQ (mI m (q + 7)) (mI m (q + 22)) (mI m (q + 23)) (mI m (q + 24)) (mI m (q + 25)) n i) &&& ((hoF (mI m (q + 7)) (nv (mI m (q + 22) i)) (nv (mI m (q + 23) i)) (mI m (q + 24) i) n) ^^^ (-nI 1)))), some (.int (nI (i + 1))), none]) ⟨rfl, rfl, rfl, trivial⟩ ?_
        have w9 := ih (i + 1) (by omega) (by omega)
        rw [show rfQ (mI m (q + 7)) (mI m (q + 22)) (mI m (q + 23)) (mI m (q + 24)) (mI m (q + 25)) n (i + 1) = _ from fo_s] at w9
        unfold rfS at w9
        rw [if_pos cz34] at w9
        exact w9
      · -- 34 not: ¬ mI m (q + 25) i = 0
        show Jj sc d 0 0 (mth 316) (pg P316 5).1 [some (.ref 142), some (.int ((rfQ (mI m (q + 7)) (mI m (q + 22)) (mI m (q + 23)) (mI m (q + 24)) (mI m (q + 25)) n i) &&& (hoF (mI m (q + 7)) (nv (mI m (q + 22) i)) (nv (mI m (q + 23) i)) (mI m (q + 24) i) n))), some (.int (nI i + nI 1)), some (.int (hoF (mI m (q + 7)) (nv (mI m (q + 22) i)) (nv (mI m (q + 23) i)) (mI m (q + 24) i) n))] [] m 0 0 Q
        rw [show nI i + nI 1 = nI (i + 1) from by simp only [nI_add, pk_mul]]
        refine J_wk (L' := [some (.ref 142), some (.int ((rfQ (mI m (q + 7)) (mI m (q + 22)) (mI m (q + 23)) (mI m (q + 24)) (mI m (q + 25)) n i) &&& (hoF (mI m (q + 7)) (nv (mI m (q + 22) i)) (nv (mI m (q + 23) i)) (mI m (q + 24) i) n))), some (.int (nI (i + 1))), none]) ⟨rfl, rfl, rfl, trivial⟩ ?_
        have w9 := ih (i + 1) (by omega) (by omega)
        rw [show rfQ (mI m (q + 7)) (mI m (q + 22)) (mI m (q + 23)) (mI m (q + 24)) (mI m (q + 25)) n (i + 1) = _ from fo_s] at w9
        unfold rfS at w9
        rw [if_neg cz34] at w9
        exact w9
theorem C316 {d : Nat} {m : Mm} {Q : Option Value → Mm → Prop} {q n nt ns : Nat} (hd : 3 ≤ d) (hW : Wd m.2.2) (hN : NW m.2.2 q) (h158 : 158 ≤ q) (hq : va_rf (mR m 142 3) = .ref q) (hn : mI m q 6 = nI n) (hn6 : n ≤ 6) (hnt : mI m q 5 = nI nt) (hnt6 : nt ≤ 6) (hns : mI m q 14 = nI ns) (hns8 : ns ≤ 8) (hse : ∀ i, i < ns → iR (mI m (q + 22) i) 6 ∧ iR (mI m (q + 23) i) 5) (hQ : Q (some (.int (rfQ (mI m (q + 7)) (mI m (q + 22)) (mI m (q + 23)) (mI m (q + 24)) (mI m (q + 25)) n ns))) m) : Cc d 0 0 316 [.ref 142] m Q := by
  refine ent (n := 112) z316 (by decide) rfl (by decide) (Nat.le_of_ble_eq_true rfl) (fun sc => ?_)
  refine And.intro ⟨by omega, Nat.le_of_ble_eq_true rfl, Nat.le_refl _, Nat.le_refl _⟩ (And.intro (Wdo_142 hW) ?_)
  refine C294 hW hN hq ?_
  rw [hn]
  show Jj sc d 0 0 (mth 316) (pg P316 5).1 [some (.ref 142), some (.int (nI 1 <<< (nI n &&& 31) - nI 1)), some (.int (nI 0)), none] [] m 0 0 Q
  exact lfit (by omega) hW hN h158 hq hn hn6 hnt hnt6 hns hns8 hse hQ (ns + 1) 0 (Nat.zero_le _) (by omega)
theorem iR_up {x : Int32} {v w : Nat} (h : iR x v) (hw : v ≤ w) : iR x w := by
  obtain ⟨y, hy, e⟩ := h
  exact ⟨y, by omega, e⟩
theorem P_fits {d : Nat} {m : Mm} {Q : Option Value → Mm → Prop} {z : Nat} (hd : 16 ≤ d) (hR : Rel z m) (h : ∀ (r : Int32) m1, Wd m1.2.2 → (∀ Q2 : Option Value → Mm → Prop, (∀ m2, Rel z m2 → Q2 (some (.int r)) m2) → Cc d 0 0 317 [.ref 142] m1 Q2) → Q (some (.int r)) m1) : Cc d 0 0 156 [.ref 0] m Q := by
  obtain ⟨hW, hz, hS, a, b, hA, hX⟩ := id hR
  obtain ⟨hL, hLb, hab, ha, hb⟩ := RelA_L hW hA
  obtain ⟨n2r, hn2, bn2, ln2⟩ := RL_n (s := 2) (f := 5) hX.2.2.1 (by decide) (fun _ _ h => h.2.2.2.2.2.1)
  change n2r ≤ 6 at bn2
  obtain ⟨n4r, hn4, bn4, ln4⟩ := RL_n (s := 4) (f := 6) hX.2.2.1 (by decide) (fun _ _ h => h.2.2.2.2.2.2.1)
  change n4r ≤ 6 at bn4
  obtain ⟨n8r, hn8, bn8, ln8⟩ := RL_n (s := 8) (f := 10) hX.2.2.1 (by decide) (fun _ _ h => h.2.2.2.2.2.2.2.2.2.2.1)
  change n8r ≤ 8 at bn8
  obtain ⟨n10r, hn10, bn10, ln10⟩ := RL_n (s := 10) (f := 12) hX.2.2.1 (by decide) (fun _ _ h => h.2.2.2.2.2.2.2.2.2.2.2.2.1)
  change n10r ≤ 4 at bn10
  obtain ⟨ns, hns, bns, lns⟩ := RL_n (s := 12) (f := 14) hX.2.2.1 (by decide) (fun _ _ h => h.2.2.2.2.2.2.2.2.2.2.2.2.2.2)
  change ns ≤ 8 at bns
  rcases RL_st hX.2.2.1 with ⟨hL0, hst0⟩ | ⟨q, hq1, hst0⟩
  · skip
    refine ent (n := 48) z156 (by decide) rfl (by decide) (Nat.le_of_ble_eq_true rfl) (fun sc => ?_)
    refine And.intro (Wdo_0 hW) (Exists.intro _ (And.intro ha ?_))
    refine And.intro ⟨by omega, Nat.le_of_ble_eq_true rfl, Nat.le_refl _, Nat.le_refl _⟩ (And.intro (LWo_0 hL) ?_)
    refine C21 hL ?_
    refine And.intro (fun cz3 => ?_) (fun cz3 => False.elim (absurd (bi_ne0.mp cz3) (hst0)))
    refine And.intro ⟨by omega, Nat.le_of_ble_eq_true rfl, Nat.le_refl _, Nat.le_refl _⟩ (And.intro (Wdo_0 hW) ?_)
    refine C176 hW ?_
    refine And.intro ⟨rfl, trivial, Nat.le_refl _, Nat.le_refl _⟩ ?_
    refine h _ _ hW (fun Q2 h2 => ?_)
    refine ent (n := 50) z317 (by decide) rfl (by decide) (Nat.le_of_ble_eq_true rfl) (fun sc2 => ?_)
    refine And.intro (Wdo_142 hW) ?_
    refine And.intro (Wdo_142 hW) (Exists.intro _ (And.intro (show va_rf (mR m 142 3) = .null by rw [hL0.1]; rfl) ?_))
    refine And.intro ⟨by omega, Nat.le_of_ble_eq_true rfl, Nat.le_refl _, Nat.le_refl _⟩ (And.intro (Wdo_142 hW) ?_)
    refine C200 (m := (uI (uI m 0 0 (nI 1)) 142 0 (nI 0))) hW ?_
    refine And.intro ⟨rfl, trivial, Nat.le_refl _, Nat.le_refl _⟩ ?_
    exact h2 _ (Rel_ans hR (by decide))
  · skip
    obtain ⟨hq, w, u, ha0, ha1, hq0, hq1w, hw6, hu4, hwu, hgr⟩ := RL_q hq1
    obtain ⟨h158, hqz, hN, h3, ⟨T, hI⟩, hst, hla, hLQ, hSR⟩ := hq1
    have hq6 : mI m q 6 = nI n4r := hLQ.1.2.2.2.2.2.2.1.trans hn4
    have hq5 : mI m q 5 = nI n2r := hLQ.1.2.2.2.2.2.1.trans hn2
    have hq14 : mI m q 14 = nI ns := hLQ.1.2.2.2.2.2.2.2.2.2.2.2.2.2.2.trans hns
    have nss : nv (mI m (a + 1) 12) = ns := by rw [hns, nv_nI (by omega)]
    have n2s : nv (mI m (a + 1) 2) = n2r := by rw [hn2, nv_nI (by omega)]
    have hv6 : ∀ i, i < ns → iR (mI m (a + 14) (i * 4)) n2r ∧ iR (mI m (a + 14) (i * 4 + 1)) 5 ∧ iR (mI m (a + 14) (i * 4 + 2)) 24 ∧ iR (mI m (a + 14) (i * 4 + 3)) 2 := fun i hi => n2s ▸ hI.2.2.2.2.2.2.2.2.1 i (nss.symm ▸ hi)
    have hq12 : ∀ i, i < ns → mI m (q + 22) i = mI m (a + 14) (i * 4) ∧ mI m (q + 23) i = mI m (a + 14) (i * 4 + 1) ∧ mI m (q + 24) i = mI m (a + 14) (i * 4 + 2) ∧ mI m (q + 25) i = mI m (a + 14) (i * 4 + 3) := fun i hi => hLQ.2.2.2.2.2.2.2.2.2.2.2.2 i (nss.symm ▸ hi)
    have hseA : ∀ i, i < ns → iR (mI m (a + 14) (i * 4)) 6 ∧ iR (mI m (a + 14) (i * 4 + 1)) 5 := fun i hi => ⟨iR_up (hv6 i hi).1 (by omega), (hv6 i hi).2.1⟩
    have hseQ : ∀ i, i < ns → iR (mI m (q + 22) i) 6 ∧ iR (mI m (q + 23) i) 5 := fun i hi => by rw [(hq12 i hi).1, (hq12 i hi).2.1]; exact hseA i hi
    refine ent (n := 48) z156 (by decide) rfl (by decide) (Nat.le_of_ble_eq_true rfl) (fun sc => ?_)
    refine And.intro (Wdo_0 hW) (Exists.intro _ (And.intro ha ?_))
    refine And.intro ⟨by omega, Nat.le_of_ble_eq_true rfl, Nat.le_refl _, Nat.le_refl _⟩ (And.intro (LWo_0 hL) ?_)
    refine C21 hL ?_
    refine And.intro (fun cz3 => False.elim (absurd (hst0) (bi_eq0.mp cz3))) (fun cz3 => ?_)
    refine And.intro (Wdo_0 hW) (Exists.intro _ (And.intro ha ?_))
    refine And.intro ⟨by omega, Nat.le_of_ble_eq_true rfl, Nat.le_refl _, Nat.le_refl _⟩ ?_
    refine C87 (ns := ns) (n := n4r) hL hns (by omega) hseA hn4 (by omega) (by omega) ?_
    refine And.intro ⟨by omega, Nat.le_of_ble_eq_true rfl, Nat.le_refl _, Nat.le_refl _⟩ (And.intro (Wdo_0 hW) ?_)
    refine C177 hW ?_
    refine And.intro ⟨rfl, trivial, Nat.le_refl _, Nat.le_refl _⟩ ?_
    refine h _ _ hW (fun Q2 h2 => ?_)
    refine ent (n := 50) z317 (by decide) rfl (by decide) (Nat.le_of_ble_eq_true rfl) (fun sc2 => ?_)
    refine And.intro (Wdo_142 hW) ?_
    refine And.intro (Wdo_142 hW) (Exists.intro _ (And.intro hq ?_))
    refine And.intro ⟨by omega, Nat.le_of_ble_eq_true rfl, Nat.le_refl _, Nat.le_refl _⟩ (And.intro (Wdo_142 hW) ?_)
    refine C316 (m := (uI (uI m 0 0 (nI 0)) 142 0 (nI 0))) (ns := ns) (by omega) hW hN h158 hq (show mI (uI (uI m 0 0 (nI 0)) 142 0 (nI 0)) q 6 = nI n4r by rw [uI_ne (by omega), uI_ne (by omega)]; exact hq6) (by omega) (show mI (uI (uI m 0 0 (nI 0)) 142 0 (nI 0)) q 5 = nI n2r by rw [uI_ne (by omega), uI_ne (by omega)]; exact hq5) (by omega) (show mI (uI (uI m 0 0 (nI 0)) 142 0 (nI 0)) q 14 = nI ns by rw [uI_ne (by omega), uI_ne (by omega)]; exact hq14) (by omega) (fun i hi => by rw [uI_ne (b := q + 22) (by omega), uI_ne (b := q + 22) (by omega), uI_ne (b := q + 23) (by omega), uI_ne (b := q + 23) (by omega)]; exact hseQ i hi) ?_
    rw [uI_ne (m := (uI m 0 0 (nI 0))) (a := 142) (b := (q + 7)) (by omega)]
    rw [uI_ne (m := (uI m 0 0 (nI 0))) (a := 142) (b := (q + 22)) (by omega)]
    rw [uI_ne (m := (uI m 0 0 (nI 0))) (a := 142) (b := (q + 23)) (by omega)]
    rw [uI_ne (m := (uI m 0 0 (nI 0))) (a := 142) (b := (q + 24)) (by omega)]
    rw [uI_ne (m := (uI m 0 0 (nI 0))) (a := 142) (b := (q + 25)) (by omega)]
    rw [uI_ne (m := m) (a := 0) (b := (q + 7)) (by omega)]
    rw [uI_ne (m := m) (a := 0) (b := (q + 22)) (by omega)]
    rw [uI_ne (m := m) (a := 0) (b := (q + 23)) (by omega)]
    rw [uI_ne (m := m) (a := 0) (b := (q + 24)) (by omega)]
    rw [uI_ne (m := m) (a := 0) (b := (q + 25)) (by omega)]
    refine And.intro ⟨by omega, Nat.le_of_ble_eq_true rfl, Nat.le_refl _, Nat.le_refl _⟩ (And.intro (Wdo_142 hW) ?_)
    refine C202 (m := (uI (uI m 0 0 (nI 0)) 142 0 (nI 0))) hW ?_
    refine And.intro ⟨rfl, trivial, Nat.le_refl _, Nat.le_refl _⟩ ?_
    rw [fit_e (off := mI m (q + 7)) (off2 := mI m (a + 7)) (th := mI m (q + 22)) (so := mI m (q + 23)) (ho := mI m (q + 24)) (ye := mI m (q + 25)) (sn := mI m (a + 14)) (by omega) hLQ.2.2.2.2.2.1 hq12 (fun i hi => ⟨(hseA i hi).1, (hseA i hi).2, (hv6 i hi).2.2.2⟩)]
    exact h2 _ (Rel_ans hR (by decide))
