theorem lkv_3 {T T1 : NT} {E E1 : Nat → Nat → Int32} {B : Nat → Int32} {n i j : Nat} (h : luckL T E B n i = .inr (T1, E1, j)) : E1 1 = E 1 ∧ E1 0 0 = E 0 0 := by
  unfold luckL at h
  obtain ⟨_, _, h⟩ := rb_r h
  have e := congrArg (fun a : LSt => a.2.1) (Sum.inr.inj h)
  dsimp only at e
  rw [← e]
  exact ⟨rfl, rfl⟩
theorem lkv_4 {T T1 : NT} {E E1 : Nat → Nat → Int32} {B : Nat → Int32} {n i j : Nat} (h : godL T E B n i = .inr (T1, E1, j)) : E1 1 = E 1 ∧ E1 0 0 = E 0 0 := by
  unfold godL at h
  obtain ⟨_, _, h⟩ := rb_r h
  obtain ⟨_, _, h⟩ := rb_r h
  obtain ⟨_, _, h⟩ := rb_r h
  obtain ⟨_, _, h⟩ := rb_r h
  obtain ⟨_, _, h⟩ := rb_r h
  obtain ⟨_, _, h⟩ := rb_r h
  obtain ⟨_, _, h⟩ := rb_r h
  obtain ⟨_, _, h⟩ := rb_r h
  obtain ⟨_, _, h⟩ := rb_r h
  obtain ⟨_, _, h⟩ := rb_r h
  have e := congrArg (fun a : LSt => a.2.1) (Sum.inr.inj h)
  dsimp only at e
  rw [← e]
  exact ⟨rfl, rfl⟩
theorem lkv_8 {T T1 : NT} {E E1 : Nat → Nat → Int32} {B : Nat → Int32} {n i j : Nat} (h : prayerL T E B n i = .inr (T1, E1, j)) : E1 1 = E 1 ∧ E1 0 0 = E 0 0 := by
  unfold prayerL at h
  obtain ⟨_, _, h⟩ := rb_r h
  obtain ⟨_, _, h⟩ := rb_r h
  obtain ⟨_, _, h⟩ := rb_r h
  obtain ⟨_, _, h⟩ := rb_r h
  obtain ⟨_, _, h⟩ := rb_r h
  obtain ⟨_, _, h⟩ := rb_r h
  obtain ⟨_, _, h⟩ := rb_r h
  obtain ⟨_, _, h⟩ := rb_r h
  obtain ⟨_, _, h⟩ := rb_r h
  obtain ⟨_, _, h⟩ := rb_r h
  obtain ⟨_, _, h⟩ := rb_r h
  obtain ⟨_, _, h⟩ := rb_r h
  have e := congrArg (fun a : LSt => a.2.1) (Sum.inr.inj h)
  dsimp only at e
  rw [← e]
  exact ⟨rfl, rfl⟩
theorem lkv_10 {T T1 : NT} {E E1 : Nat → Nat → Int32} {B : Nat → Int32} {n i j : Nat} (h : villL T E B n i = .inr (T1, E1, j)) : E1 1 = E 1 ∧ E1 0 0 = E 0 0 := by
  unfold villL at h
  obtain ⟨_, _, h⟩ := rb_r h
  obtain ⟨_, _, h⟩ := rb_r h
  obtain ⟨_, _, h⟩ := rb_r h
  obtain ⟨_, _, h⟩ := rb_r h
  have e := congrArg (fun a : LSt => a.2.1) (Sum.inr.inj h)
  dsimp only at e
  rw [← e]
  exact ⟨rfl, rfl⟩
theorem lkv_11 {T T1 : NT} {E E1 : Nat → Nat → Int32} {B : Nat → Int32} {n i j : Nat} (h : spellL T E B n i = .inr (T1, E1, j)) : E1 1 = E 1 ∧ E1 0 0 = E 0 0 := by
  unfold spellL at h
  obtain ⟨_, _, h⟩ := rb_r h
  obtain ⟨_, _, h⟩ := rb_r h
  have e := congrArg (fun a : LSt => a.2.1) (Sum.inr.inj h)
  dsimp only at e
  rw [← e]
  exact ⟨rfl, rfl⟩
theorem lkv_12 {T T1 : NT} {E E1 : Nat → Nat → Int32} {B : Nat → Int32} {n i j : Nat} (h : sawL T E B n i = .inr (T1, E1, j)) : E1 1 = E 1 ∧ E1 0 0 = E 0 0 := by
  unfold sawL at h
  obtain ⟨_, _, h⟩ := rb_r h
  obtain ⟨_, _, h⟩ := rb_r h
  obtain ⟨_, _, h⟩ := rb_r h
  obtain ⟨_, _, h⟩ := rb_r h
  have e := congrArg (fun a : LSt => a.2.1) (Sum.inr.inj h)
  dsimp only at e
  rw [← e]
  exact ⟨rfl, rfl⟩
theorem lkv_7 {T T1 : NT} {E E1 : Nat → Nat → Int32} {B : Nat → Int32} {n i j : Nat} (h : barsL T E B n i = .inr (T1, E1, j)) : E1 1 = E 1 ∧ E1 0 0 = E 0 0 := by
  unfold barsL at h
  obtain ⟨_, _, h⟩ := rb_r h
  obtain ⟨_, _, h⟩ := rb_r h
  split at h
  · cases h
  · split at h
    · cases h
    · have e := congrArg (fun a : LSt => a.2.1) (Sum.inr.inj h)
      dsimp only at e
      rw [← e]
      exact ⟨rfl, rfl⟩
theorem lkv_9 {T T1 : NT} {E E1 : Nat → Nat → Int32} {B : Nat → Int32} {n i j : Nat} (h : clashL T E B n i = .inr (T1, E1, j)) : E1 1 = E 1 ∧ E1 0 0 = E 0 0 := by
  unfold clashL at h
  obtain ⟨_, _, h⟩ := rb_r h
  obtain ⟨_, _, h⟩ := rb_r h
  split at h
  · cases h
  · split at h
    · cases h
    · have e := congrArg (fun a : LSt => a.2.1) (Sum.inr.inj h)
      dsimp only at e
      rw [← e]
      exact ⟨rfl, rfl⟩
theorem lkv_6 {T T1 : NT} {E E1 : Nat → Nat → Int32} {B : Nat → Int32} {n i j : Nat} (h : sendsL T E B n i = .inr (T1, E1, j)) : E1 1 = E 1 ∧ E1 0 0 = E 0 0 := by
  unfold sendsL at h
  obtain ⟨_, _, h⟩ := rb_r h
  obtain ⟨_, _, h⟩ := rb_r h
  split at h
  · obtain ⟨_, _, h⟩ := rb_r h
    split at h
    · cases h
    · have e := congrArg (fun a : LSt => a.2.1) (Sum.inr.inj h)
      dsimp only at e
      rw [← e]
      exact ⟨rfl, rfl⟩
  · cases h
