theorem law_3 {sc : Nat × (Nat → Int32)} {d : Nat} {m : Mm} {Q : Option Value → Mm → Prop} {k z c s : Nat} (hd : 20 ≤ d) (hN : sc.1 ≤ 3072) (hk6 : 6 * k + 6 ≤ sc.1) (hz : z ≤ 20000) (hc : c ≤ 20000) (hs : s ≤ 400000) (hR : Rel z m) (hk : ∀ z2 m2 cz2 s2, z2 ≤ z + 30 → cz2 ≤ c + 30 → s2 ≤ s + 540 → Rel z2 m2 → Jj sc d 601024 7293034 lawX (pg P349 13).1 [some (.ref 3000000), some (.ref 0), some (.ref 142), some (.ref 157), some (.int (nI (6 * (k + 1)))), none, none] [] m2 cz2 s2 Q) : zw sc d 601024 7293034 lawX.2.2.2.2.1 P349 (KJ sc d 601024 7293034 lawX P349 Q) Q 2143 106 [some (.ref 3000000), some (.ref 0), some (.ref 142), some (.ref 157), some (.int (nI (6 * k))), none, none] [] m c s := by
  have hW := hR.1
  refine And.intro ⟨by omega, Nat.le_of_ble_eq_true rfl, by omega, by omega⟩ (And.intro (Wdo_0 hW) ?_)
  refine P_where (z := z) (by omega) hR (fun rr m1 hW1 h9 => ?_)
  have hW := hW1
  refine And.intro ⟨by omega, Nat.le_of_ble_eq_true rfl, by omega, by omega⟩ (And.intro (Wdo_142 hW) ?_)
  refine h9 _ (fun m2 hR2 => ?_)
  have hW := hR2.1
  refine And.intro (fun cz110 => ?_) (fun cz110 => False.elim (absurd rfl cz110))
  show Jj sc d 601024 7293034 lawX (pg P349 13).1 [some (.ref 3000000), some (.ref 0), some (.ref 142), some (.ref 157), some (.int ((nI (6 * k)) + nI 6)), none, none] [] m2 (c + 0 + 0) (s + 0 + 0) Q
  rw [show nI (6 * k) + nI 6 = nI (6 * (k + 1)) from nI_add _ _]
  exact hk z m2 _ _ (by omega) (by omega) (by omega) hR2
theorem law_7 {sc : Nat × (Nat → Int32)} {d : Nat} {m : Mm} {Q : Option Value → Mm → Prop} {k z c s : Nat} (hd : 20 ≤ d) (hN : sc.1 ≤ 3072) (hk6 : 6 * k + 6 ≤ sc.1) (hz : z ≤ 20000) (hc : c ≤ 20000) (hs : s ≤ 400000) (hR : Rel z m) (hk : ∀ z2 m2 cz2 s2, z2 ≤ z + 30 → cz2 ≤ c + 30 → s2 ≤ s + 540 → Rel z2 m2 → Jj sc d 601024 7293034 lawX (pg P349 13).1 [some (.ref 3000000), some (.ref 0), some (.ref 142), some (.ref 157), some (.int (nI (6 * (k + 1)))), none, none] [] m2 cz2 s2 Q) : zw sc d 601024 7293034 lawX.2.2.2.2.1 P349 (KJ sc d 601024 7293034 lawX P349 Q) Q 2143 224 [some (.ref 3000000), some (.ref 0), some (.ref 142), some (.ref 157), some (.int (nI (6 * k))), none, none] [] m c s := by
  have hW := hR.1
  have ez229 : (nI (6 * k)) + nI 1 = nI (6 * k + 1) := by simp only [nI_add, pk_mul]
  refine And.intro ⟨rfl, vi ez229 (by omega) (by omega)⟩ ?_
  rw [vc ez229 (by omega)]
  refine And.intro ⟨by omega, Nat.le_of_ble_eq_true rfl, by omega, by omega⟩ (And.intro (Wdo_0 hW) ?_)
  refine P_many (z := z) (by omega) hR (fun rr m1 hW1 h9 => ?_)
  have hW := hW1
  have ez236 : (nI (6 * k)) + nI 1 = nI (6 * k + 1) := by simp only [nI_add, pk_mul]
  refine And.intro ⟨rfl, vi ez236 (by omega) (by omega)⟩ ?_
  rw [vc ez236 (by omega)]
  refine And.intro ⟨by omega, Nat.le_of_ble_eq_true rfl, by omega, by omega⟩ (And.intro (Wdo_142 hW) ?_)
  refine h9 _ (fun m2 hR2 => ?_)
  have hW := hR2.1
  refine And.intro (fun cz238 => ?_) (fun cz238 => False.elim (absurd rfl cz238))
  show Jj sc d 601024 7293034 lawX (pg P349 13).1 [some (.ref 3000000), some (.ref 0), some (.ref 142), some (.ref 157), some (.int ((nI (6 * k)) + nI 6)), none, none] [] m2 (c + 0 + 0) (s + 0 + 0) Q
  rw [show nI (6 * k) + nI 6 = nI (6 * (k + 1)) from nI_add _ _]
  exact hk z m2 _ _ (by omega) (by omega) (by omega) hR2
theorem law_11 {sc : Nat × (Nat → Int32)} {d : Nat} {m : Mm} {Q : Option Value → Mm → Prop} {k z c s : Nat} (hd : 20 ≤ d) (hN : sc.1 ≤ 3072) (hk6 : 6 * k + 6 ≤ sc.1) (hz : z ≤ 20000) (hc : c ≤ 20000) (hs : s ≤ 400000) (hR : Rel z m) (hk : ∀ z2 m2 cz2 s2, z2 ≤ z + 30 → cz2 ≤ c + 30 → s2 ≤ s + 540 → Rel z2 m2 → Jj sc d 601024 7293034 lawX (pg P349 13).1 [some (.ref 3000000), some (.ref 0), some (.ref 142), some (.ref 157), some (.int (nI (6 * (k + 1)))), none, none] [] m2 cz2 s2 Q) : zw sc d 601024 7293034 lawX.2.2.2.2.1 P349 (KJ sc d 601024 7293034 lawX P349 Q) Q 2143 262 [some (.ref 3000000), some (.ref 0), some (.ref 142), some (.ref 157), some (.int (nI (6 * k))), none, none] [] m c s := by
  have hW := hR.1
  refine And.intro ⟨by omega, Nat.le_of_ble_eq_true rfl, by omega, by omega⟩ (And.intro (Wdo_0 hW) ?_)
  refine P_disputed (z := z) (by omega) hR (fun rr m1 hW1 h9 => ?_)
  have hW := hW1
  refine And.intro ⟨by omega, Nat.le_of_ble_eq_true rfl, by omega, by omega⟩ (And.intro (Wdo_142 hW) ?_)
  refine h9 _ (fun m2 hR2 => ?_)
  have hW := hR2.1
  refine And.intro (fun cz266 => ?_) (fun cz266 => False.elim (absurd rfl cz266))
  show Jj sc d 601024 7293034 lawX (pg P349 13).1 [some (.ref 3000000), some (.ref 0), some (.ref 142), some (.ref 157), some (.int ((nI (6 * k)) + nI 6)), none, none] [] m2 (c + 0 + 0) (s + 0 + 0) Q
  rw [show nI (6 * k) + nI 6 = nI (6 * (k + 1)) from nI_add _ _]
  exact hk z m2 _ _ (by omega) (by omega) (by omega) hR2
theorem law_15 {sc : Nat × (Nat → Int32)} {d : Nat} {m : Mm} {Q : Option Value → Mm → Prop} {k z c s : Nat} (hd : 20 ≤ d) (hN : sc.1 ≤ 3072) (hk6 : 6 * k + 6 ≤ sc.1) (hz : z ≤ 20000) (hc : c ≤ 20000) (hs : s ≤ 400000) (hR : Rel z m) (hk : ∀ z2 m2 cz2 s2, z2 ≤ z + 30 → cz2 ≤ c + 30 → s2 ≤ s + 540 → Rel z2 m2 → Jj sc d 601024 7293034 lawX (pg P349 13).1 [some (.ref 3000000), some (.ref 0), some (.ref 142), some (.ref 157), some (.int (nI (6 * (k + 1)))), none, none] [] m2 cz2 s2 Q) : zw sc d 601024 7293034 lawX.2.2.2.2.1 P349 (KJ sc d 601024 7293034 lawX P349 Q) Q 2143 340 [some (.ref 3000000), some (.ref 0), some (.ref 142), some (.ref 157), some (.int (nI (6 * k))), none, none] [] m c s := by
  have hW := hR.1
  have ez345 : (nI (6 * k)) + nI 1 = nI (6 * k + 1) := by simp only [nI_add, pk_mul]
  refine And.intro ⟨rfl, vi ez345 (by omega) (by omega)⟩ ?_
  rw [vc ez345 (by omega)]
  refine And.intro ⟨by omega, Nat.le_of_ble_eq_true rfl, by omega, by omega⟩ (And.intro (Wdo_0 hW) ?_)
  refine P_when (z := z) (by omega) hR (fun rr m1 hW1 h9 => ?_)
  have hW := hW1
  have ez352 : (nI (6 * k)) + nI 1 = nI (6 * k + 1) := by simp only [nI_add, pk_mul]
  refine And.intro ⟨rfl, vi ez352 (by omega) (by omega)⟩ ?_
  rw [vc ez352 (by omega)]
  refine And.intro ⟨by omega, Nat.le_of_ble_eq_true rfl, by omega, by omega⟩ (And.intro (Wdo_142 hW) ?_)
  refine h9 _ (fun m2 hR2 => ?_)
  have hW := hR2.1
  refine And.intro (fun cz354 => ?_) (fun cz354 => False.elim (absurd rfl cz354))
  show Jj sc d 601024 7293034 lawX (pg P349 13).1 [some (.ref 3000000), some (.ref 0), some (.ref 142), some (.ref 157), some (.int ((nI (6 * k)) + nI 6)), none, none] [] m2 (c + 0 + 0) (s + 0 + 0) Q
  rw [show nI (6 * k) + nI 6 = nI (6 * (k + 1)) from nI_add _ _]
  exact hk z m2 _ _ (by omega) (by omega) (by omega) hR2
theorem law_19 {sc : Nat × (Nat → Int32)} {d : Nat} {m : Mm} {Q : Option Value → Mm → Prop} {k z c s : Nat} (hd : 20 ≤ d) (hN : sc.1 ≤ 3072) (hk6 : 6 * k + 6 ≤ sc.1) (hz : z ≤ 20000) (hc : c ≤ 20000) (hs : s ≤ 400000) (hR : Rel z m) (hk : ∀ z2 m2 cz2 s2, z2 ≤ z + 30 → cz2 ≤ c + 30 → s2 ≤ s + 540 → Rel z2 m2 → Jj sc d 601024 7293034 lawX (pg P349 13).1 [some (.ref 3000000), some (.ref 0), some (.ref 142), some (.ref 157), some (.int (nI (6 * (k + 1)))), none, none] [] m2 cz2 s2 Q) : zw sc d 601024 7293034 lawX.2.2.2.2.1 P349 (KJ sc d 601024 7293034 lawX P349 Q) Q 2143 408 [some (.ref 3000000), some (.ref 0), some (.ref 142), some (.ref 157), some (.int (nI (6 * k))), none, none] [] m c s := by
  have hW := hR.1
  have ez413 : (nI (6 * k)) + nI 1 = nI (6 * k + 1) := by simp only [nI_add, pk_mul]
  refine And.intro ⟨rfl, vi ez413 (by omega) (by omega)⟩ ?_
  rw [vc ez413 (by omega)]
  have ez418 : (nI (6 * k)) + nI 2 = nI (6 * k + 2) := by simp only [nI_add, pk_mul]
  refine And.intro ⟨rfl, vi ez418 (by omega) (by omega)⟩ ?_
  rw [vc ez418 (by omega)]
  refine And.intro ⟨by omega, Nat.le_of_ble_eq_true rfl, by omega, by omega⟩ (And.intro (Wdo_0 hW) ?_)
  refine P_altar (z := z) (by omega) hR (fun rr m1 hW1 h9 => ?_)
  have hW := hW1
  have ez425 : (nI (6 * k)) + nI 1 = nI (6 * k + 1) := by simp only [nI_add, pk_mul]
  refine And.intro ⟨rfl, vi ez425 (by omega) (by omega)⟩ ?_
  rw [vc ez425 (by omega)]
  have ez430 : (nI (6 * k)) + nI 2 = nI (6 * k + 2) := by simp only [nI_add, pk_mul]
  refine And.intro ⟨rfl, vi ez430 (by omega) (by omega)⟩ ?_
  rw [vc ez430 (by omega)]
  refine And.intro ⟨by omega, Nat.le_of_ble_eq_true rfl, by omega, by omega⟩ (And.intro (Wdo_142 hW) ?_)
  refine h9 _ (fun m2 hR2 => ?_)
  have hW := hR2.1
  refine And.intro (fun cz432 => ?_) (fun cz432 => False.elim (absurd rfl cz432))
  show Jj sc d 601024 7293034 lawX (pg P349 13).1 [some (.ref 3000000), some (.ref 0), some (.ref 142), some (.ref 157), some (.int ((nI (6 * k)) + nI 6)), none, none] [] m2 (c + 0 + 0) (s + 0 + 0) Q
  rw [show nI (6 * k) + nI 6 = nI (6 * (k + 1)) from nI_add _ _]
  exact hk z m2 _ _ (by omega) (by omega) (by omega) hR2
theorem law_23 {sc : Nat × (Nat → Int32)} {d : Nat} {m : Mm} {Q : Option Value → Mm → Prop} {k z c s : Nat} (hd : 20 ≤ d) (hN : sc.1 ≤ 3072) (hk6 : 6 * k + 6 ≤ sc.1) (hz : z ≤ 20000) (hc : c ≤ 20000) (hs : s ≤ 400000) (hR : Rel z m) (hk : ∀ z2 m2 cz2 s2, z2 ≤ z + 30 → cz2 ≤ c + 30 → s2 ≤ s + 540 → Rel z2 m2 → Jj sc d 601024 7293034 lawX (pg P349 13).1 [some (.ref 3000000), some (.ref 0), some (.ref 142), some (.ref 157), some (.int (nI (6 * (k + 1)))), none, none] [] m2 cz2 s2 Q) : zw sc d 601024 7293034 lawX.2.2.2.2.1 P349 (KJ sc d 601024 7293034 lawX P349 Q) Q 2143 506 [some (.ref 3000000), some (.ref 0), some (.ref 142), some (.ref 157), some (.int (nI (6 * k))), none, none] [] m c s := by
  have hW := hR.1
  have ez511 : (nI (6 * k)) + nI 1 = nI (6 * k + 1) := by simp only [nI_add, pk_mul]
  refine And.intro ⟨rfl, vi ez511 (by omega) (by omega)⟩ ?_
  rw [vc ez511 (by omega)]
  have ez516 : (nI (6 * k)) + nI 2 = nI (6 * k + 2) := by simp only [nI_add, pk_mul]
  refine And.intro ⟨rfl, vi ez516 (by omega) (by omega)⟩ ?_
  rw [vc ez516 (by omega)]
  refine And.intro ⟨by omega, Nat.le_of_ble_eq_true rfl, by omega, by omega⟩ (And.intro (Wdo_0 hW) ?_)
  refine P_alone (z := z) (by omega) hR (fun rr m1 hW1 h9 => ?_)
  have hW := hW1
  have ez523 : (nI (6 * k)) + nI 1 = nI (6 * k + 1) := by simp only [nI_add, pk_mul]
  refine And.intro ⟨rfl, vi ez523 (by omega) (by omega)⟩ ?_
  rw [vc ez523 (by omega)]
  have ez528 : (nI (6 * k)) + nI 2 = nI (6 * k + 2) := by simp only [nI_add, pk_mul]
  refine And.intro ⟨rfl, vi ez528 (by omega) (by omega)⟩ ?_
  rw [vc ez528 (by omega)]
  refine And.intro ⟨by omega, Nat.le_of_ble_eq_true rfl, by omega, by omega⟩ (And.intro (Wdo_142 hW) ?_)
  refine h9 _ (fun m2 hR2 => ?_)
  have hW := hR2.1
  refine And.intro (fun cz530 => ?_) (fun cz530 => False.elim (absurd rfl cz530))
  show Jj sc d 601024 7293034 lawX (pg P349 13).1 [some (.ref 3000000), some (.ref 0), some (.ref 142), some (.ref 157), some (.int ((nI (6 * k)) + nI 6)), none, none] [] m2 (c + 0 + 0) (s + 0 + 0) Q
  rw [show nI (6 * k) + nI 6 = nI (6 * (k + 1)) from nI_add _ _]
  exact hk z m2 _ _ (by omega) (by omega) (by omega) hR2
theorem law_27 {sc : Nat × (Nat → Int32)} {d : Nat} {m : Mm} {Q : Option Value → Mm → Prop} {k z c s : Nat} (hd : 20 ≤ d) (hN : sc.1 ≤ 3072) (hk6 : 6 * k + 6 ≤ sc.1) (hz : z ≤ 20000) (hc : c ≤ 20000) (hs : s ≤ 400000) (hR : Rel z m) (hk : ∀ z2 m2 cz2 s2, z2 ≤ z + 30 → cz2 ≤ c + 30 → s2 ≤ s + 540 → Rel z2 m2 → Jj sc d 601024 7293034 lawX (pg P349 13).1 [some (.ref 3000000), some (.ref 0), some (.ref 142), some (.ref 157), some (.int (nI (6 * (k + 1)))), none, none] [] m2 cz2 s2 Q) : zw sc d 601024 7293034 lawX.2.2.2.2.1 P349 (KJ sc d 601024 7293034 lawX P349 Q) Q 2143 574 [some (.ref 3000000), some (.ref 0), some (.ref 142), some (.ref 157), some (.int (nI (6 * k))), none, none] [] m c s := by
  have hW := hR.1
  refine And.intro ⟨by omega, Nat.le_of_ble_eq_true rfl, by omega, by omega⟩ (And.intro (Wdo_0 hW) ?_)
  refine P_offended (z := z) (by omega) hR (fun rr m1 hW1 h9 => ?_)
  have hW := hW1
  refine And.intro ⟨by omega, Nat.le_of_ble_eq_true rfl, by omega, by omega⟩ (And.intro (Wdo_142 hW) ?_)
  refine h9 _ (fun m2 hR2 => ?_)
  have hW := hR2.1
  refine And.intro (fun cz578 => ?_) (fun cz578 => False.elim (absurd rfl cz578))
  show Jj sc d 601024 7293034 lawX (pg P349 13).1 [some (.ref 3000000), some (.ref 0), some (.ref 142), some (.ref 157), some (.int ((nI (6 * k)) + nI 6)), none, none] [] m2 (c + 0 + 0) (s + 0 + 0) Q
  rw [show nI (6 * k) + nI 6 = nI (6 * (k + 1)) from nI_add _ _]
  exact hk z m2 _ _ (by omega) (by omega) (by omega) hR2
theorem law_31 {sc : Nat × (Nat → Int32)} {d : Nat} {m : Mm} {Q : Option Value → Mm → Prop} {k z c s : Nat} (hd : 20 ≤ d) (hN : sc.1 ≤ 3072) (hk6 : 6 * k + 6 ≤ sc.1) (hz : z ≤ 20000) (hc : c ≤ 20000) (hs : s ≤ 400000) (hR : Rel z m) (hk : ∀ z2 m2 cz2 s2, z2 ≤ z + 30 → cz2 ≤ c + 30 → s2 ≤ s + 540 → Rel z2 m2 → Jj sc d 601024 7293034 lawX (pg P349 13).1 [some (.ref 3000000), some (.ref 0), some (.ref 142), some (.ref 157), some (.int (nI (6 * (k + 1)))), none, none] [] m2 cz2 s2 Q) : zw sc d 601024 7293034 lawX.2.2.2.2.1 P349 (KJ sc d 601024 7293034 lawX P349 Q) Q 2143 612 [some (.ref 3000000), some (.ref 0), some (.ref 142), some (.ref 157), some (.int (nI (6 * k))), none, none] [] m c s := by
  have hW := hR.1
  have ez617 : (nI (6 * k)) + nI 1 = nI (6 * k + 1) := by simp only [nI_add, pk_mul]
  refine And.intro ⟨rfl, vi ez617 (by omega) (by omega)⟩ ?_
  rw [vc ez617 (by omega)]
  refine And.intro ⟨by omega, Nat.le_of_ble_eq_true rfl, by omega, by omega⟩ (And.intro (Wdo_0 hW) ?_)
  refine P_saint (z := z) (by omega) hR (fun rr m1 hW1 h9 => ?_)
  have hW := hW1
  have ez624 : (nI (6 * k)) + nI 1 = nI (6 * k + 1) := by simp only [nI_add, pk_mul]
  refine And.intro ⟨rfl, vi ez624 (by omega) (by omega)⟩ ?_
  rw [vc ez624 (by omega)]
  refine And.intro ⟨by omega, Nat.le_of_ble_eq_true rfl, by omega, by omega⟩ (And.intro (Wdo_142 hW) ?_)
  refine h9 _ (fun m2 hR2 => ?_)
  have hW := hR2.1
  refine And.intro (fun cz626 => ?_) (fun cz626 => False.elim (absurd rfl cz626))
  show Jj sc d 601024 7293034 lawX (pg P349 13).1 [some (.ref 3000000), some (.ref 0), some (.ref 142), some (.ref 157), some (.int ((nI (6 * k)) + nI 6)), none, none] [] m2 (c + 0 + 0) (s + 0 + 0) Q
  rw [show nI (6 * k) + nI 6 = nI (6 * (k + 1)) from nI_add _ _]
  exact hk z m2 _ _ (by omega) (by omega) (by omega) hR2
theorem law_35 {sc : Nat × (Nat → Int32)} {d : Nat} {m : Mm} {Q : Option Value → Mm → Prop} {k z c s : Nat} (hd : 20 ≤ d) (hN : sc.1 ≤ 3072) (hk6 : 6 * k + 6 ≤ sc.1) (hz : z ≤ 20000) (hc : c ≤ 20000) (hs : s ≤ 400000) (hR : Rel z m) (hk : ∀ z2 m2 cz2 s2, z2 ≤ z + 30 → cz2 ≤ c + 30 → s2 ≤ s + 540 → Rel z2 m2 → Jj sc d 601024 7293034 lawX (pg P349 13).1 [some (.ref 3000000), some (.ref 0), some (.ref 142), some (.ref 157), some (.int (nI (6 * (k + 1)))), none, none] [] m2 cz2 s2 Q) : zw sc d 601024 7293034 lawX.2.2.2.2.1 P349 (KJ sc d 601024 7293034 lawX P349 Q) Q 2143 650 [some (.ref 3000000), some (.ref 0), some (.ref 142), some (.ref 157), some (.int (nI (6 * k))), none, none] [] m c s := by
  have hW := hR.1
  have ez655 : (nI (6 * k)) + nI 1 = nI (6 * k + 1) := by simp only [nI_add, pk_mul]
  refine And.intro ⟨rfl, vi ez655 (by omega) (by omega)⟩ ?_
  rw [vc ez655 (by omega)]
  refine And.intro ⟨by omega, Nat.le_of_ble_eq_true rfl, by omega, by omega⟩ (And.intro (Wdo_0 hW) ?_)
  refine P_ends (z := z) (by omega) hR (fun rr m1 hW1 h9 => ?_)
  have hW := hW1
  have ez662 : (nI (6 * k)) + nI 1 = nI (6 * k + 1) := by simp only [nI_add, pk_mul]
  refine And.intro ⟨rfl, vi ez662 (by omega) (by omega)⟩ ?_
  rw [vc ez662 (by omega)]
  refine And.intro ⟨by omega, Nat.le_of_ble_eq_true rfl, by omega, by omega⟩ (And.intro (Wdo_142 hW) ?_)
  refine h9 _ (fun m2 hR2 => ?_)
  have hW := hR2.1
  refine And.intro (fun cz664 => ?_) (fun cz664 => False.elim (absurd rfl cz664))
  show Jj sc d 601024 7293034 lawX (pg P349 13).1 [some (.ref 3000000), some (.ref 0), some (.ref 142), some (.ref 157), some (.int ((nI (6 * k)) + nI 6)), none, none] [] m2 (c + 0 + 0) (s + 0 + 0) Q
  rw [show nI (6 * k) + nI 6 = nI (6 * (k + 1)) from nI_add _ _]
  exact hk z m2 _ _ (by omega) (by omega) (by omega) hR2
theorem law_39 {sc : Nat × (Nat → Int32)} {d : Nat} {m : Mm} {Q : Option Value → Mm → Prop} {k z c s : Nat} (hd : 20 ≤ d) (hN : sc.1 ≤ 3072) (hk6 : 6 * k + 6 ≤ sc.1) (hz : z ≤ 20000) (hc : c ≤ 20000) (hs : s ≤ 400000) (hR : Rel z m) (hk : ∀ z2 m2 cz2 s2, z2 ≤ z + 30 → cz2 ≤ c + 30 → s2 ≤ s + 540 → Rel z2 m2 → Jj sc d 601024 7293034 lawX (pg P349 13).1 [some (.ref 3000000), some (.ref 0), some (.ref 142), some (.ref 157), some (.int (nI (6 * (k + 1)))), none, none] [] m2 cz2 s2 Q) : zw sc d 601024 7293034 lawX.2.2.2.2.1 P349 (KJ sc d 601024 7293034 lawX P349 Q) Q 2143 688 [some (.ref 3000000), some (.ref 0), some (.ref 142), some (.ref 157), some (.int (nI (6 * k))), none, none] [] m c s := by
  have hW := hR.1
  have ez693 : (nI (6 * k)) + nI 1 = nI (6 * k + 1) := by simp only [nI_add, pk_mul]
  refine And.intro ⟨rfl, vi ez693 (by omega) (by omega)⟩ ?_
  rw [vc ez693 (by omega)]
  have ez698 : (nI (6 * k)) + nI 2 = nI (6 * k + 2) := by simp only [nI_add, pk_mul]
  refine And.intro ⟨rfl, vi ez698 (by omega) (by omega)⟩ ?_
  rw [vc ez698 (by omega)]
  refine And.intro (fun cz699 => ?_) (fun cz699 => ?_)
  · -- 699 taken: sc.2 (6 * k + 2) = 0
    refine And.intro ⟨by omega, Nat.le_of_ble_eq_true rfl, by omega, by omega⟩ (And.intro (Wdo_0 hW) ?_)
    refine P_sleep (z := z) (by omega) hR (fun rr m1 hW1 h9 => ?_)
    have hW := hW1
    have ez709 : (nI (6 * k)) + nI 1 = nI (6 * k + 1) := by simp only [nI_add, pk_mul]
    refine And.intro ⟨rfl, vi ez709 (by omega) (by omega)⟩ ?_
    rw [vc ez709 (by omega)]
    have ez714 : (nI (6 * k)) + nI 2 = nI (6 * k + 2) := by simp only [nI_add, pk_mul]
    refine And.intro ⟨rfl, vi ez714 (by omega) (by omega)⟩ ?_
    rw [vc ez714 (by omega)]
    refine And.intro (fun cz715 => ?_) (fun cz715 => ?_)
    · -- 715 taken: sc.2 (6 * k + 2) = 0
      refine And.intro ⟨by omega, Nat.le_of_ble_eq_true rfl, by omega, by omega⟩ (And.intro (Wdo_142 hW) ?_)
      refine h9 _ (fun m2 hR2 => ?_)
      have hW := hR2.1
      refine And.intro (fun cz720 => ?_) (fun cz720 => False.elim (absurd rfl cz720))
      show Jj sc d 601024 7293034 lawX (pg P349 13).1 [some (.ref 3000000), some (.ref 0), some (.ref 142), some (.ref 157), some (.int ((nI (6 * k)) + nI 6)), none, none] [] m2 (c + 0 + 0) (s + 0 + 0) Q
      rw [show nI (6 * k) + nI 6 = nI (6 * (k + 1)) from nI_add _ _]
      exact hk z m2 _ _ (by omega) (by omega) (by omega) hR2
    · -- 715 not: ¬ sc.2 (6 * k + 2) = 0
      exact absurd cz699 cz715
  · -- 699 not: ¬ sc.2 (6 * k + 2) = 0
    refine And.intro ⟨by omega, Nat.le_of_ble_eq_true rfl, by omega, by omega⟩ (And.intro (Wdo_0 hW) ?_)
    refine P_sleep (z := z) (by omega) hR (fun rr m1 hW1 h9 => ?_)
    have hW := hW1
    have ez709 : (nI (6 * k)) + nI 1 = nI (6 * k + 1) := by simp only [nI_add, pk_mul]
    refine And.intro ⟨rfl, vi ez709 (by omega) (by omega)⟩ ?_
    rw [vc ez709 (by omega)]
    have ez714 : (nI (6 * k)) + nI 2 = nI (6 * k + 2) := by simp only [nI_add, pk_mul]
    refine And.intro ⟨rfl, vi ez714 (by omega) (by omega)⟩ ?_
    rw [vc ez714 (by omega)]
    refine And.intro (fun cz715 => ?_) (fun cz715 => ?_)
    · -- 715 taken: sc.2 (6 * k + 2) = 0
      exact absurd cz715 cz699
    · -- 715 not: ¬ sc.2 (6 * k + 2) = 0
      refine And.intro ⟨by omega, Nat.le_of_ble_eq_true rfl, by omega, by omega⟩ (And.intro (Wdo_142 hW) ?_)
      refine h9 _ (fun m2 hR2 => ?_)
      have hW := hR2.1
      refine And.intro (fun cz720 => ?_) (fun cz720 => False.elim (absurd rfl cz720))
      show Jj sc d 601024 7293034 lawX (pg P349 13).1 [some (.ref 3000000), some (.ref 0), some (.ref 142), some (.ref 157), some (.int ((nI (6 * k)) + nI 6)), none, none] [] m2 (c + 0 + 0) (s + 0 + 0) Q
      rw [show nI (6 * k) + nI 6 = nI (6 * (k + 1)) from nI_add _ _]
      exact hk z m2 _ _ (by omega) (by omega) (by omega) hR2
theorem law_43 {sc : Nat × (Nat → Int32)} {d : Nat} {m : Mm} {Q : Option Value → Mm → Prop} {k z c s : Nat} (hd : 20 ≤ d) (hN : sc.1 ≤ 3072) (hk6 : 6 * k + 6 ≤ sc.1) (hz : z ≤ 20000) (hc : c ≤ 20000) (hs : s ≤ 400000) (hR : Rel z m) (hk : ∀ z2 m2 cz2 s2, z2 ≤ z + 30 → cz2 ≤ c + 30 → s2 ≤ s + 540 → Rel z2 m2 → Jj sc d 601024 7293034 lawX (pg P349 13).1 [some (.ref 3000000), some (.ref 0), some (.ref 142), some (.ref 157), some (.int (nI (6 * (k + 1)))), none, none] [] m2 cz2 s2 Q) : zw sc d 601024 7293034 lawX.2.2.2.2.1 P349 (KJ sc d 601024 7293034 lawX P349 Q) Q 2143 794 [some (.ref 3000000), some (.ref 0), some (.ref 142), some (.ref 157), some (.int (nI (6 * k))), none, none] [] m c s := by
  have hW := hR.1
  have ez799 : (nI (6 * k)) + nI 1 = nI (6 * k + 1) := by simp only [nI_add, pk_mul]
  refine And.intro ⟨rfl, vi ez799 (by omega) (by omega)⟩ ?_
  rw [vc ez799 (by omega)]
  have ez804 : (nI (6 * k)) + nI 2 = nI (6 * k + 2) := by simp only [nI_add, pk_mul]
  refine And.intro ⟨rfl, vi ez804 (by omega) (by omega)⟩ ?_
  rw [vc ez804 (by omega)]
  refine And.intro ⟨by omega, Nat.le_of_ble_eq_true rfl, by omega, by omega⟩ (And.intro (Wdo_0 hW) ?_)
  refine P_changes (z := z) (by omega) hR (fun rr m1 hW1 h9 => ?_)
  have hW := hW1
  have ez811 : (nI (6 * k)) + nI 1 = nI (6 * k + 1) := by simp only [nI_add, pk_mul]
  refine And.intro ⟨rfl, vi ez811 (by omega) (by omega)⟩ ?_
  rw [vc ez811 (by omega)]
  have ez816 : (nI (6 * k)) + nI 2 = nI (6 * k + 2) := by simp only [nI_add, pk_mul]
  refine And.intro ⟨rfl, vi ez816 (by omega) (by omega)⟩ ?_
  rw [vc ez816 (by omega)]
  refine And.intro ⟨by omega, Nat.le_of_ble_eq_true rfl, by omega, by omega⟩ (And.intro (Wdo_142 hW) ?_)
  refine h9 _ (fun m2 hR2 => ?_)
  have hW := hR2.1
  refine And.intro (fun cz818 => ?_) (fun cz818 => False.elim (absurd rfl cz818))
  show Jj sc d 601024 7293034 lawX (pg P349 13).1 [some (.ref 3000000), some (.ref 0), some (.ref 142), some (.ref 157), some (.int ((nI (6 * k)) + nI 6)), none, none] [] m2 (c + 0 + 0) (s + 0 + 0) Q
  rw [show nI (6 * k) + nI 6 = nI (6 * (k + 1)) from nI_add _ _]
  exact hk z m2 _ _ (by omega) (by omega) (by omega) hR2
theorem law_47 {sc : Nat × (Nat → Int32)} {d : Nat} {m : Mm} {Q : Option Value → Mm → Prop} {k z c s : Nat} (hd : 20 ≤ d) (hN : sc.1 ≤ 3072) (hk6 : 6 * k + 6 ≤ sc.1) (hz : z ≤ 20000) (hc : c ≤ 20000) (hs : s ≤ 400000) (hR : Rel z m) (hk : ∀ z2 m2 cz2 s2, z2 ≤ z + 30 → cz2 ≤ c + 30 → s2 ≤ s + 540 → Rel z2 m2 → Jj sc d 601024 7293034 lawX (pg P349 13).1 [some (.ref 3000000), some (.ref 0), some (.ref 142), some (.ref 157), some (.int (nI (6 * (k + 1)))), none, none] [] m2 cz2 s2 Q) : zw sc d 601024 7293034 lawX.2.2.2.2.1 P349 (KJ sc d 601024 7293034 lawX P349 Q) Q 2143 852 [some (.ref 3000000), some (.ref 0), some (.ref 142), some (.ref 157), some (.int (nI (6 * k))), none, none] [] m c s := by
  have hW := hR.1
  have ez857 : (nI (6 * k)) + nI 1 = nI (6 * k + 1) := by simp only [nI_add, pk_mul]
  refine And.intro ⟨rfl, vi ez857 (by omega) (by omega)⟩ ?_
  rw [vc ez857 (by omega)]
  refine And.intro ⟨by omega, Nat.le_of_ble_eq_true rfl, by omega, by omega⟩ (And.intro (Wdo_0 hW) ?_)
  refine P_back (z := z) (by omega) hR (fun rr m1 hW1 h9 => ?_)
  have hW := hW1
  have ez864 : (nI (6 * k)) + nI 1 = nI (6 * k + 1) := by simp only [nI_add, pk_mul]
  refine And.intro ⟨rfl, vi ez864 (by omega) (by omega)⟩ ?_
  rw [vc ez864 (by omega)]
  refine And.intro ⟨by omega, Nat.le_of_ble_eq_true rfl, by omega, by omega⟩ (And.intro (Wdo_142 hW) ?_)
  refine h9 _ (fun m2 hR2 => ?_)
  have hW := hR2.1
  refine And.intro (fun cz866 => ?_) (fun cz866 => False.elim (absurd rfl cz866))
  show Jj sc d 601024 7293034 lawX (pg P349 13).1 [some (.ref 3000000), some (.ref 0), some (.ref 142), some (.ref 157), some (.int ((nI (6 * k)) + nI 6)), none, none] [] m2 (c + 0 + 0) (s + 0 + 0) Q
  rw [show nI (6 * k) + nI 6 = nI (6 * (k + 1)) from nI_add _ _]
  exact hk z m2 _ _ (by omega) (by omega) (by omega) hR2
theorem law_51 {sc : Nat × (Nat → Int32)} {d : Nat} {m : Mm} {Q : Option Value → Mm → Prop} {k z c s : Nat} (hd : 20 ≤ d) (hN : sc.1 ≤ 3072) (hk6 : 6 * k + 6 ≤ sc.1) (hz : z ≤ 20000) (hc : c ≤ 20000) (hs : s ≤ 400000) (hR : Rel z m) (hk : ∀ z2 m2 cz2 s2, z2 ≤ z + 30 → cz2 ≤ c + 30 → s2 ≤ s + 540 → Rel z2 m2 → Jj sc d 601024 7293034 lawX (pg P349 13).1 [some (.ref 3000000), some (.ref 0), some (.ref 142), some (.ref 157), some (.int (nI (6 * (k + 1)))), none, none] [] m2 cz2 s2 Q) : zw sc d 601024 7293034 lawX.2.2.2.2.1 P349 (KJ sc d 601024 7293034 lawX P349 Q) Q 2143 950 [some (.ref 3000000), some (.ref 0), some (.ref 142), some (.ref 157), some (.int (nI (6 * k))), none, none] [] m c s := by
  have hW := hR.1
  have ez955 : (nI (6 * k)) + nI 1 = nI (6 * k + 1) := by simp only [nI_add, pk_mul]
  refine And.intro ⟨rfl, vi ez955 (by omega) (by omega)⟩ ?_
  rw [vc ez955 (by omega)]
  have ez960 : (nI (6 * k)) + nI 2 = nI (6 * k + 2) := by simp only [nI_add, pk_mul]
  refine And.intro ⟨rfl, vi ez960 (by omega) (by omega)⟩ ?_
  rw [vc ez960 (by omega)]
  refine And.intro ⟨by omega, Nat.le_of_ble_eq_true rfl, by omega, by omega⟩ (And.intro (Wdo_0 hW) ?_)
  refine P_prayer (z := z) (by omega) hR (fun rr m1 hW1 h9 => ?_)
  have hW := hW1
  have ez967 : (nI (6 * k)) + nI 1 = nI (6 * k + 1) := by simp only [nI_add, pk_mul]
  refine And.intro ⟨rfl, vi ez967 (by omega) (by omega)⟩ ?_
  rw [vc ez967 (by omega)]
  have ez972 : (nI (6 * k)) + nI 2 = nI (6 * k + 2) := by simp only [nI_add, pk_mul]
  refine And.intro ⟨rfl, vi ez972 (by omega) (by omega)⟩ ?_
  rw [vc ez972 (by omega)]
  refine And.intro ⟨by omega, Nat.le_of_ble_eq_true rfl, by omega, by omega⟩ (And.intro (Wdo_142 hW) ?_)
  refine h9 _ (fun m2 hR2 => ?_)
  have hW := hR2.1
  refine And.intro (fun cz974 => ?_) (fun cz974 => False.elim (absurd rfl cz974))
  show Jj sc d 601024 7293034 lawX (pg P349 13).1 [some (.ref 3000000), some (.ref 0), some (.ref 142), some (.ref 157), some (.int ((nI (6 * k)) + nI 6)), none, none] [] m2 (c + 0 + 0) (s + 0 + 0) Q
  rw [show nI (6 * k) + nI 6 = nI (6 * (k + 1)) from nI_add _ _]
  exact hk z m2 _ _ (by omega) (by omega) (by omega) hR2
theorem law_55 {sc : Nat × (Nat → Int32)} {d : Nat} {m : Mm} {Q : Option Value → Mm → Prop} {k z c s : Nat} (hd : 20 ≤ d) (hN : sc.1 ≤ 3072) (hk6 : 6 * k + 6 ≤ sc.1) (hz : z ≤ 20000) (hc : c ≤ 20000) (hs : s ≤ 400000) (hR : Rel z m) (hk : ∀ z2 m2 cz2 s2, z2 ≤ z + 30 → cz2 ≤ c + 30 → s2 ≤ s + 540 → Rel z2 m2 → Jj sc d 601024 7293034 lawX (pg P349 13).1 [some (.ref 3000000), some (.ref 0), some (.ref 142), some (.ref 157), some (.int (nI (6 * (k + 1)))), none, none] [] m2 cz2 s2 Q) : zw sc d 601024 7293034 lawX.2.2.2.2.1 P349 (KJ sc d 601024 7293034 lawX P349 Q) Q 2143 1056 [some (.ref 3000000), some (.ref 0), some (.ref 142), some (.ref 157), some (.int (nI (6 * k))), none, none] [] m c s := by
  have hW := hR.1
  refine And.intro ⟨by omega, Nat.le_of_ble_eq_true rfl, by omega, by omega⟩ (And.intro (Wdo_0 hW) ?_)
  refine P_trouble (z := z) (by omega) hR (fun rr m1 hW1 h9 => ?_)
  have hW := hW1
  refine And.intro ⟨by omega, Nat.le_of_ble_eq_true rfl, by omega, by omega⟩ (And.intro (Wdo_142 hW) ?_)
  refine h9 _ (fun m2 hR2 => ?_)
  have hW := hR2.1
  refine And.intro (fun cz1060 => ?_) (fun cz1060 => False.elim (absurd rfl cz1060))
  show Jj sc d 601024 7293034 lawX (pg P349 13).1 [some (.ref 3000000), some (.ref 0), some (.ref 142), some (.ref 157), some (.int ((nI (6 * k)) + nI 6)), none, none] [] m2 (c + 0 + 0) (s + 0 + 0) Q
  rw [show nI (6 * k) + nI 6 = nI (6 * (k + 1)) from nI_add _ _]
  exact hk z m2 _ _ (by omega) (by omega) (by omega) hR2
