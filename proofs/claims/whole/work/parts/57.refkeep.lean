theorem lkv_0 {T T1 : NT} {E E1 : Nat → Nat → Int32} {B : Nat → Int32} {n i j : Nat} (h : landL T E B n i = (.inr (T1, E1, j) : Rs LSt)) : E1 1 = E 1 := by
  unfold landL at h
  obtain ⟨_, _, h⟩ := rb_r h
  obtain ⟨_, _, h⟩ := rb_r h
  obtain ⟨_, _, h⟩ := rb_r h
  obtain ⟨_, _, h⟩ := rb_r h
  obtain ⟨_, _, h⟩ := rb_r h
  obtain ⟨_, _, h⟩ := rb_r h
  have e := congrArg (fun a : LSt => a.2.1) (Sum.inr.inj h)
  dsimp only at e
  rw [← e]
  rfl
theorem lkv_2 {T T1 : NT} {E E1 : Nat → Nat → Int32} {B : Nat → Int32} {n i j : Nat} (h : rb (tTell T 2 E B n i) (fun t => .inr (t.1, E, t.2)) = (.inr (T1, E1, j) : Rs LSt)) : E1 1 = E 1 := by
  obtain ⟨_, _, h⟩ := rb_r h
  have e : E = E1 := congrArg (fun a : LSt => a.2.1) (Sum.inr.inj h)
  rw [← e]
theorem lkv_5 {T T1 : NT} {E E1 : Nat → Nat → Int32} {B : Nat → Int32} {n i j : Nat} (h : holdsL T E B n i = (.inr (T1, E1, j) : Rs LSt)) : E1 1 = E 1 := by
  unfold holdsL at h
  obtain ⟨_, _, h⟩ := rb_r h
  obtain ⟨_, _, h⟩ := rb_r h
  obtain ⟨_, _, h⟩ := rb_r h
  obtain ⟨_, _, h⟩ := rb_r h
  obtain ⟨_, _, h⟩ := rb_r h
  obtain ⟨_, _, h⟩ := rb_r h
  have e := congrArg (fun a : LSt => a.2.1) (Sum.inr.inj h)
  dsimp only at e
  rw [← e]
  exact htQ_r (by decide) _
theorem lkv_1 {T T1 : NT} {E E1 : Nat → Nat → Int32} {B : Nat → Int32} {n i j : Nat} (h : rowL T E B n i = .inr (T1, E1, j)) : E1 1 = E 1 := by
  unfold rowL at h
  split at h
  · split at h
    · split at h
      · have e := congrArg (fun a : LSt => a.2.1) (Sum.inr.inj h)
        dsimp only at e
        rw [← e]
        exact rwQ_r (by decide) _
      · cases h
    · cases h
  · cases h
theorem lkv_N {T T1 : NT} {E E1 : Nat → Nat → Int32} {B : Nat → Int32} {n i j : Nat} {s : Nat} (h : lnF s T E B n i = .inr (T1, E1, j)) (hs : s < 13) : E1 1 = E 1 := by
  match s, hs with
  | 0, _ => exact lkv_0 h
  | 1, _ => exact lkv_1 h
  | 2, _ => exact lkv_2 h
  | 3, _ => exact (lkv_3 h).1
  | 4, _ => exact (lkv_4 h).1
  | 5, _ => exact lkv_5 h
  | 6, _ => exact (lkv_6 h).1
  | 7, _ => exact (lkv_7 h).1
  | 8, _ => exact (lkv_8 h).1
  | 9, _ => exact (lkv_9 h).1
  | 10, _ => exact (lkv_10 h).1
  | 11, _ => exact (lkv_11 h).1
  | 12, _ => exact (lkv_12 h).1
  | s + 13, hk => exact absurd hk (by omega)
theorem LKp_n {T T1 : NT} {E E1 : Nat → Nat → Int32} {B : Nat → Int32} {n i j s : Nat} (h : lnF s T E B n i = .inr (T1, E1, j)) (hs : s < 13) (hI2 : LRI T1 (bump E1 s)) (h0 : s = 0 → nv (E 1 0) = 0) (hp : s ≠ 0 → 0 < nv (E 1 0)) (hc : E 1 0 = nI (nv (E 1 0))) : LKp (bump E1 s) := by
  have ez1 := lkv_N h hs
  have q : 0 < nv (bump E1 s 1 0) := by
    by_cases e : s = 0
    · subst e
      show 0 < nv (upd (E1 1) 0 (E1 1 0 + nI 1) 0)
      rw [upd_e, ez1, hc, h0 rfl]
      decide
    · show 0 < nv (upd (E1 1) s (E1 1 s + nI 1) 0)
      rw [upd_o (fun z => e z.symm), ez1]
      exact hp e
  have v8 : V8 (bump E1 s) := hI2.2.2.2.2.2.2.2.2.2.2
  exact ⟨fun z => absurd z (by omega), fun _ => (v8.2.1 q).1⟩
theorem LKp_0 {E : Nat → Nat → Int32} : LKp (cleF E) := by
  have hc : ∀ s, s < 13 → nv (cleF E 1 s) = 0 := fun s hs => by rw [cl_c hs]; exact nv_nI (by decide)
  exact ⟨fun _ => ⟨rfl, hc⟩, fun z => absurd z (by rw [hc 0 (by decide)]; decide)⟩
theorem luck_i {Λ E : Nat → Nat → Int32} (h1 : Q1 Λ E) (hr : iR (Λ 0 3) 100) : E 0 16 = -nI 1 ↔ nv (Λ 1 3) = 0 := by
  refine ⟨fun z => ?_, fun z => (h1.1 z).1⟩
  rcases Nat.eq_zero_or_pos (nv (Λ 1 3)) with q | q
  · exact q
  · obtain ⟨w, hw, ew⟩ := hr
    rw [h1.2 q, ew] at z
    exact absurd z (nI_neg1 (by omega))
