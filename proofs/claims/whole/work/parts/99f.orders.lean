theorem RelX_p {m n : Mm} {a b : Nat} (hA : RelA m a b) (h22 : n.2.2 = m.2.2) (hI : ∀ r, ¬ scr r → r ≠ 0 → r ≠ 142 → r ≠ 140 → r ≠ 139 → (r < 112 ∨ 124 ≤ r) → mI n r = mI m r) (hD9 : RelD (mI n) a) (hE9 : RelE (mI n) a) (h6 : mI n 142 6 = mI m 142 6) (h21 : mI n 142 21 = mI m 142 21) (h22b : mI n 142 22 = mI m 142 22) (h : RelX m a) : RelX n a := by
  obtain ⟨hT, hV, hL, hP, hD, hE⟩ := h
  have ha : a = 1 ∨ a = 93 := hA.1.elim (fun z => Or.inl z.1) (fun z => Or.inr z.1)
  have hi : ∀ r, (r < 112 ∨ r = 143 ∨ r = 145 ∨ r = 146 ∨ r = 147 ∨ 158 ≤ r) → r ≠ 0 → mI n r = mI m r := fun r hr h0 => hI r (by unfold scr; omega) h0 (by omega) (by omega) (by omega) (by omega)
  have hla : ∀ f, f < 19 → mI n (a + f) = mI m (a + f) := fun f hf => hi _ (by omega) (by omega)
  have eZ : mZ n = mZ m := congrArg (fun w : WR => w.2.2) h22
  have eR : mR n = mR m := congrArg (fun w : WR => w.1) h22
  have ez0 : mI n a = mI m a := hla 0 (by decide)
  have ez1 : mI n (a + 1) = mI m (a + 1) := hla 1 (by decide)
  refine ⟨?_, ?_, ?_, ?_, ?_, ?_⟩
  · unfold RelT at hT ⊢
    rw [hi 88 (by omega) (by omega), hi 143 (by omega) (by omega), hi 89 (by omega) (by omega), h6]
    exact hT
  · unfold SV at hV ⊢
    rw [hi 145 (by omega) (by omega), hi 20 (by omega) (by omega), hi (20 + 1) (by omega) (by omega), hi (20 + 2) (by omega) (by omega), hi (20 + 3) (by omega) (by omega)]
    exact hV
  · rcases hL with hL | ⟨q, b1, b2, b3, b4, b5, b6, b7, b8, b9⟩
    · left
      unfold RelL0 at hL ⊢
      rw [eR, ez0, ez1, hi 20 (by omega) (by omega), hi 24 (by omega) (by omega)]
      exact hL
    · right
      refine ⟨q, b1, by rw [eZ]; exact b2, by rw [h22]; exact b3, by rw [eR]; exact b4, ?_, by rw [ez1]; exact b6, ?_, ?_, ?_⟩
      · obtain ⟨T, hI2⟩ := b5
        exact ⟨T, LRI_19 (fun f hf => hla f hf) hI2⟩
      · show ¬ laP (lam n a)
        unfold laP
        rw [show lam n a 0 = lam m a 0 from hla 0 (by decide), show lam n a 1 = lam m a 1 from hla 1 (by decide)]
        exact b7
      · exact LQ_19 (fun f hf => hla f hf) (LQ_29 (E := lam m q) (fun f hf => hi _ (by omega) (by omega)) b8)
      · unfold SR at b9 ⊢
        rw [show lam n a 1 = lam m a 1 from hla 1 (by decide), hi 20 (by omega) (by omega), hi (20 + 1) (by omega) (by omega), hi (20 + 2) (by omega) (by omega), hi (20 + 3) (by omega) (by omega)]
        exact b9
  · obtain ⟨f, w, y, cz1, cz2, cz3, cz4, cz5, cz6, cz7, cz8, cz9, cz10⟩ := hP
    refine ⟨f, w, y, cz1, cz2, cz3, by rw [hi 24 (by omega) (by omega)]; exact cz4, by rw [hi 24 (by omega) (by omega)]; exact cz5, by rw [hi 24 (by omega) (by omega)]; exact cz6, by rw [h21]; exact cz7, by rw [h22b]; exact cz8, fun i h9 => ?_, fun j h9 => ?_⟩
    · have hb : (f + i) % 12 < 12 := Nat.mod_lt _ (by decide)
      have := cz9 i h9
      generalize (f + i) % 12 = s at this hb ⊢
      unfold SV SR at this ⊢
      rw [hi 146 (by omega) (by omega), hi (27 + 4 * s) (by omega) (by omega), hi (27 + 4 * s + 1) (by omega) (by omega), hi (27 + 4 * s + 2) (by omega) (by omega), hi (27 + 4 * s + 3) (by omega) (by omega), show lam n a 1 = lam m a 1 from hla 1 (by decide)]
      exact this
    · have := cz10 j h9
      unfold SV SR at this ⊢
      rw [hi 147 (by omega) (by omega), hi (75 + 4 * j) (by omega) (by omega), hi (75 + 4 * j + 1) (by omega) (by omega), hi (75 + 4 * j + 2) (by omega) (by omega), hi (75 + 4 * j + 3) (by omega) (by omega), show lam n a 1 = lam m a 1 from hla 1 (by decide)]
      exact this
  · exact hD9
  · exact hE9
theorem Rel_p {z : Nat} {m n : Mm} {a b : Nat} (hW : Wd m.2.2) (hz : mZ m = z) (hA : RelA m a b) (hX : RelX m a) (h22 : n.2.2 = m.2.2) (hI : ∀ r, ¬ scr r → r ≠ 0 → r ≠ 142 → r ≠ 140 → r ≠ 139 → (r < 112 ∨ 124 ≤ r) → mI n r = mI m r) (hD9 : RelD (mI n) a) (hE9 : RelE (mI n) a) (h6 : mI n 142 6 = mI m 142 6) (h21 : mI n 142 21 = mI m 142 21) (h22b : mI n 142 22 = mI m 142 22) (hS : RelS (mI n)) : Rel z n := by
  have eZ : mZ n = mZ m := congrArg (fun w : WR => w.2.2) h22
  have eR : mR n = mR m := congrArg (fun w : WR => w.1) h22
  refine ⟨by rw [h22]; exact hW, eZ.trans hz, hS, a, b, ?_, RelX_p hA h22 hI hD9 hE9 h6 h21 h22b hX⟩
  unfold RelA at hA ⊢
  rw [eR]
  exact hA
/-- what the order of number c leaves -/
def dec (so am : Nat → Int32) : Nat → Nat → Nat → Int32 → Int32 → Prop
  | 0, _, _, l, v => v = l
  | k + 1, c, u, l, v => ∃ j, j < 6 ∧ tbit u j ∧ pcl u j = c % (k + 1) ∧ dec so am k (c / (k + 1)) (clb u j) (caF so am j l) v
theorem pcl_t {u j : Nat} (hj : j < 6) (h : tbit u j) : pcl u j < pcl u 6 := by
  have h1 : pcl u (j + 1) = pcl u j + 1 := by rw [pcl_s, if_pos h]
  have h2 : pcl u (j + 1) ≤ pcl u 6 := pcl_m (by omega)
  omega
theorem clb_p : ∀ u, u < 64 → ∀ i, i < 6 → tbit u i → clb u i < 64 ∧ pcl (clb u i) 6 + 1 = pcl u 6 := by decide +kernel
theorem rc_0 {so am : Nat → Int32} {r : Nat} {l v : Int32} : rc so am r 0 l v ↔ v = l := by
  cases r with
  | zero => exact Iff.rfl
  | succ r => exact ⟨fun h => h.elim (fun z => z.2) (fun z => absurd rfl z.1), fun h => Or.inl ⟨rfl, h⟩⟩
theorem dec_rc {so am : Nat → Int32} {v : Int32} : ∀ k r u l, u < 64 → pcl u 6 = k → k ≤ r → ((∃ c, c < fc k ∧ dec so am k c u l v) ↔ rc so am r u l v)
  | 0, r, u, l, hu, hp, hr => by
    rw [pc0 u hu hp, rc_0]
    exact ⟨fun ⟨c, _, h⟩ => h, fun h => ⟨0, by decide, h⟩⟩
  | k + 1, 0, u, l, hu, hp, hr => absurd hr (by omega)
  | k + 1, r + 1, u, l, hu, hp, hr => by
    have hu0 : u ≠ 0 := fun z => by
      rw [z] at hp
      exact absurd hp (by show ¬ pcl 0 6 = k + 1; rw [show pcl 0 6 = 0 from by decide]; omega)
    constructor
    · rintro ⟨c, hc, j, hj, ht, hpj, hd⟩
      have hq := clb_p u hu j hj ht
      refine Or.inr ⟨hu0, j, hj, ht, (dec_rc k r (clb u j) (caF so am j l) hq.1 (by omega) (by omega)).mp ⟨c / (k + 1), ?_, hd⟩⟩
      rw [Nat.div_lt_iff_lt_mul (by omega), Nat.mul_comm]
      rw [fc_s] at hc
      exact hc
    · intro h
      obtain ⟨-, j, hj, ht, h⟩ := h.resolve_left (fun z => hu0 z.1)
      have hq := clb_p u hu j hj ht
      obtain ⟨c, hc, hd⟩ := (dec_rc k r (clb u j) (caF so am j l) hq.1 (by omega) (by omega)).mpr h
      have hlt := pcl_t hj ht
      have hm : (c * (k + 1) + pcl u j) % (k + 1) = pcl u j := by
        rw [Nat.add_comm, Nat.add_mul_mod_self_right, Nat.mod_eq_of_lt (by omega)]
      have hv : (c * (k + 1) + pcl u j) / (k + 1) = c := by
        rw [Nat.add_comm, Nat.add_mul_div_right _ _ (by omega), Nat.div_eq_of_lt (by omega), Nat.zero_add]
      refine ⟨c * (k + 1) + pcl u j, ?_, j, hj, ht, hm.symm, by rw [hv]; exact hd⟩
      rw [fc_s]
      have : (c + 1) * (k + 1) ≤ fc k * (k + 1) := Nat.mul_le_mul_right _ hc
      rw [Nat.mul_comm (k + 1)]
      rw [Nat.add_mul] at this
      omega
theorem dec_f {so am : Nat → Int32} {v w : Int32} : ∀ {k c u l}, u < 64 → dec so am k c u l v → dec so am k c u l w → v = w
  | 0, c, u, l, _, h1, h2 => h1.trans h2.symm
  | k + 1, c, u, l, hu, ⟨j, hj, ht, hp, hd⟩, ⟨j2, hj2, ht2, hp2, hd2⟩ => by
    have e : j = j2 := by
      rcases Nat.lt_trichotomy j j2 with z | z | z
      · have h1 : pcl u (j + 1) = pcl u j + 1 := by rw [pcl_s, if_pos ht]
        have h2 : pcl u (j + 1) ≤ pcl u j2 := pcl_m (by omega)
        omega
      · exact z
      · have h1 : pcl u (j2 + 1) = pcl u j2 + 1 := by rw [pcl_s, if_pos ht2]
        have h2 : pcl u (j2 + 1) ≤ pcl u j := pcl_m (by omega)
        omega
    subst e
    exact dec_f (clb_p u hu j hj ht).1 hd hd2
/-- no more places than names -/
theorem inj_le : ∀ (kz2 k : Nat) (h : Nat → Nat), (∀ i, i < k → h i < kz2) → (∀ i j, i < k → j < k → h i = h j → i = j) → k ≤ kz2
  | _, 0, _, _, _ => Nat.zero_le _
  | 0, k + 1, h, hb, _ => absurd (hb 0 (by omega)) (Nat.not_lt_zero _)
  | kz2 + 1, k + 1, h, hb, hi => by
    have := inj_le kz2 k (fun i => if h k < h i then h i - 1 else h i) (fun i hik => by
      have h1 := hb i (by omega)
      have h2 := hb k (by omega)
      have h3 : h i ≠ h k := fun z => absurd (hi i k (by omega) (by omega) z) (by omega)
      show (if h k < h i then h i - 1 else h i) < kz2
      split <;> omega) (fun i j hik hjk he => by
      have h3 : h i ≠ h k := fun z => absurd (hi i k (by omega) (by omega) z) (by omega)
      have h4 : h j ≠ h k := fun z => absurd (hi j k (by omega) (by omega) z) (by omega)
      refine hi i j (by omega) (by omega) ?_
      have he2 : (if h k < h i then h i - 1 else h i) = (if h k < h j then h j - 1 else h j) := he
      split at he2 <;> split at he2 <;> omega)
    omega
theorem enum_le {k kz2 : Nat} {f g : Nat → Int32} {S : Int32 → Prop} (hf : ∀ i j, i < k → j < k → f i = f j → i = j) (ef : ∀ v, S v ↔ ∃ i, i < k ∧ f i = v) (eg : ∀ v, S v ↔ ∃ i, i < kz2 ∧ g i = v) : k ≤ kz2 := by
  have hx : ∀ i, ∃ j, i < k → j < kz2 ∧ g j = f i := fun i => by
    by_cases h : i < k
    · obtain ⟨j, h1, h2⟩ := (eg (f i)).mp ((ef (f i)).mpr ⟨i, h, rfl⟩)
      exact ⟨j, fun _ => ⟨h1, h2⟩⟩
    · exact ⟨0, fun z => absurd z h⟩
  refine inj_le kz2 k (fun i => Classical.choose (hx i)) (fun i hi => (Classical.choose_spec (hx i) hi).1) (fun i j hi hj he => ?_)
  refine hf i j hi hj ?_
  have h1 := (Classical.choose_spec (hx i) hi).2
  have h2 := (Classical.choose_spec (hx j) hj).2
  have he2 : Classical.choose (hx i) = Classical.choose (hx j) := he
  rw [he2] at h1
  exact h1.symm.trans h2
theorem enum_eq {k kz2 : Nat} {f g : Nat → Int32} {S : Int32 → Prop} (hf : ∀ i j, i < k → j < k → f i = f j → i = j) (hg : ∀ i j, i < kz2 → j < kz2 → g i = g j → i = j) (ef : ∀ v, S v ↔ ∃ i, i < k ∧ f i = v) (eg : ∀ v, S v ↔ ∃ i, i < kz2 ∧ g i = v) : k = kz2 := Nat.le_antisymm (enum_le hf ef eg) (enum_le hg eg ef)
