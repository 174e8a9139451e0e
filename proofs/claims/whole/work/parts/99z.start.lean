def i0 : Nat → Nat → Int32 := fun _ _ => 0
def i1 : Nat → Nat → Int32 := va_up i0 0 (upd (i0 0) 12 (nI 1))
def i2 : Nat → Nat → Int32 := va_up i1 142 (upd (i1 142) 2 (-nI 1))
def gFx : Nat → Nat × Nat := va_up gF9 142 (11, 35)
def gRy : List (Nat × Nat × Nat) := arR KaX12 142 143 gR9 14
def gFy : Nat → Nat × Nat := arF TaX12 gFx 143 14
def gFz : Nat → Nat × Nat := va_up gFy 157 (103, 1)
/-- the memory when all is made -/
def M0 : Mm := cM i2 gRy gFz 158
theorem i1_z : ∀ x, 142 ≤ x → i1 x = fun _ => 0 := fun x hx => (up_ne (by omega)).trans rfl
theorem i2_z : ∀ x, 143 ≤ x → i2 x = fun _ => 0 := fun x hx => (up_ne (by omega)).trans (i1_z x (by omega))
theorem i2_o {x : Nat} (h0 : x ≠ 0) (h1 : x ≠ 142) : i2 x = fun _ => 0 := (up_ne h1).trans ((up_ne h0).trans rfl)
theorem M0_W : Wd M0.2.2 := by
  refine ⟨Nat.le_refl _, ?_, ?_⟩
  · show ∀ k, k < 158 → gFz k = shT.getD k (0, 0)
    decide +kernel
  · show ∀ q ∈ rfT, rlk gRy q.1 q.2.1 = some q.2.2
    decide +kernel
theorem M0_i {x : Nat} (h0 : x ≠ 0) (h1 : x ≠ 142) (j : Nat) : mI M0 x j = nI 0 := congrFun (i2_o h0 h1) j
theorem M0_0 {j : Nat} (hj : j ≠ 12) : mI M0 0 j = nI 0 := by
  show i2 0 j = _
  unfold i2
  rw [up_ne (by decide)]
  unfold i1
  rw [up_eq, upd_o hj]
  rfl
theorem M0_12 : mI M0 0 12 = nI 1 := by
  show i2 0 12 = _
  unfold i2
  rw [up_ne (by decide)]
  unfold i1
  rw [up_eq, upd_e]
theorem M0_m {j : Nat} (hj : j ≠ 2) : mI M0 142 j = nI 0 := by
  show i2 142 j = _
  unfold i2
  rw [up_eq, upd_o hj, i1_z 142 (Nat.le_refl _)]
  rfl
theorem M0_2 : mI M0 142 2 = -nI 1 := by
  show i2 142 2 = _
  unfold i2
  rw [up_eq, upd_e]
theorem M0_mR : mR M0 = rlk gRy := rfl
theorem gR_a : rlk gRy 0 3 = some 1 := by decide +kernel
theorem gR_b : rlk gRy 87 4 = some 93 := by decide +kernel
theorem gR_c : rlk gRy 142 3 = none := by decide +kernel
theorem M0_R : Rel 158 M0 := by
  have z : ∀ x j, x ≠ 0 → x ≠ 142 → mI M0 x j = nI 0 := fun x j h0 h1 => M0_i h0 h1 j
  refine ⟨M0_W, rfl, ⟨?_, ?_, ?_⟩, 1, 93, ⟨Or.inl ⟨rfl, rfl⟩, ?_, ?_⟩, ⟨0, by decide, z 88 1 (by decide) (by decide), M0_m (by decide), fun j h => absurd h (Nat.not_lt_zero _)⟩, ⟨?_, fun g _ => ?_, fun x _ => ?_, fun x _ => ?_, ?_⟩, Or.inl ⟨?_, z 1 0 (by decide) (by decide), z 1 1 (by decide) (by decide), fun s _ => z 2 s (by decide) (by decide), z 1 2 (by decide) (by decide), z 20 0 (by decide) (by decide), z 24 3 (by decide) (by decide), z 24 4 (by decide) (by decide)⟩, ⟨0, 0, 0, by decide, by decide, by decide, z 24 2 (by decide) (by decide), z 24 3 (by decide) (by decide), z 24 4 (by decide) (by decide), M0_m (by decide), M0_m (by decide), fun i h => absurd h (Nat.not_lt_zero _), fun i h => absurd h (Nat.not_lt_zero _)⟩, Or.inl M0_12, Or.inl (z 139 4 (by decide) (by decide))⟩
  · rw [M0_m (by decide), M0_0 (by decide)]
  · rw [M0_m (by decide), M0_0 (by decide)]
  · rw [M0_2, M0_0 (by decide), if_neg (by decide)]
  · rw [M0_mR]; exact gR_a
  · rw [M0_mR]; exact gR_b
  · rw [z 145 0 (by decide) (by decide), z 20 1 (by decide) (by decide)]
  · rw [z 145 _ (by decide) (by decide), z (20 + 1) g (by decide) (by decide)]
  · rw [z 145 _ (by decide) (by decide), z (20 + 2) x (by decide) (by decide)]
  · rw [z 145 _ (by decide) (by decide), z (20 + 3) x (by decide) (by decide)]
  · rw [z 145 _ (by decide) (by decide), z 20 0 (by decide) (by decide)]
  · rw [M0_mR]; exact gR_c
theorem law_start {sc : Nat × (Nat → Int32)} {d : Nat} {Q : Option Value → Mm → Prop} (hd : 20 ≤ d) (hk : Jj sc d 601024 7293034 lawX (pg P349 13).1 [some (.ref 3000000), some (.ref 0), some (.ref 142), some (.ref 157), some (.int (nI (6 * 0))), none, none] [] M0 158 10213 Q) : Jj sc d 601024 7293034 lawX (pg P349 0).1 [some (.ref 3000000), none, none, none, none, none, none] [] (cM i0 [] (fun _ => (0, 0)) 0) 0 0 Q := by
  refine J_w zlaw (i := 0) (by decide +kernel) 2154 ?_
  refine And.intro ⟨by decide, by decide, by decide⟩ ?_
  refine And.intro rfl ?_
  show zw sc d 601024 7293034 lawX.2.2.2.2.1 P349 (KJ sc d 601024 7293034 lawX P349 Q) Q 2153 2 [some (.ref 3000000), none, none, none, none, none, none] [.ref 0, .ref 0] (nA (cM i0 [] (fun _ => (0, 0)) 0) 9 13) (1) (13)
  rw [cA (i := i0) (z := 0) (Fr_of (fun _ _ => rfl) rfl)]
  refine And.intro ⟨by omega, Nat.le_of_ble_eq_true rfl, by decide, by decide⟩ (And.intro trivial ?_)
  refine K119 (by omega) ?_
  refine And.intro ⟨by decide, by decide, by decide⟩ ?_
  refine And.intro rfl ?_
  show zw sc d 601024 7293034 lawX.2.2.2.2.1 P349 (KJ sc d 601024 7293034 lawX P349 Q) Q 2149 6 [some (.ref 3000000), some (.ref 0), none, none, none, none, none] [.ref 142, .ref 142] (nA (cM i1 gR9 gF9 142) 11 35) (143) (6664)
  rw [cA (z := 142) (Fr_of i1_z (by decide +kernel))]
  refine And.intro ⟨by omega, Nat.le_of_ble_eq_true rfl, by decide, by decide⟩ (And.intro trivial ?_)
  refine K198 (z := 143) (by omega) (by decide) (by rw [up_eq]) (by decide) (Fr_of (fun x hx => i1_z x (by omega)) (by decide +kernel)) ?_
  show zw sc d 601024 7293034 lawX.2.2.2.2.1 P349 (KJ sc d 601024 7293034 lawX P349 Q) Q 2148 7 [some (.ref 3000000), some (.ref 0), none, none, none, none, none] [.ref 142] (cM i2 gRy gFy 157) (157) (10212)
  refine And.intro ⟨by decide, by decide, by decide, by decide, by decide⟩ ?_
  show zw sc d 601024 7293034 lawX.2.2.2.2.1 P349 (KJ sc d 601024 7293034 lawX P349 Q) Q 2145 10 [some (.ref 3000000), some (.ref 0), some (.ref 142), none, none, none, none] [.ref 157] (nA (cM i2 gRy gFy 157) 103 1) (158) (10213)
  rw [cA (z := 157) (Fr_of (fun x hx => i2_z x (by omega)) (by decide +kernel))]
  exact hk
