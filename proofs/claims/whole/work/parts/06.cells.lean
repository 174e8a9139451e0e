theorem zc_100 {E : En} {m : Mm} {U : State} {H : Heap} {a : Nat} (ho : (mS m a).1 = 100) : zc E m U H a = zA U H .int (eB E + a) (mS m a).2 (fun j => .int (mI m a j)) := by
  unfold zc
  rw [ho]
  simp
theorem Hp_100 {E : En} {m : Mm} {U : State} {H : Heap} {a : Nat} (h : Hp E m U H) (ho : oS m a 100) : zA U H .int (eB E + a) (mS m a).2 (fun j => .int (mI m a j)) := by
  have z := h.2.2 a ho.1
  rw [zc_100 ho.2] at z
  exact z
theorem zc_101 {E : En} {m : Mm} {U : State} {H : Heap} {a : Nat} (ho : (mS m a).1 = 101) : zc E m U H a = zA U H .byte (eB E + a) (mS m a).2 (fun j => .int (mI m a j)) := by
  unfold zc
  rw [ho]
  simp
theorem Hp_101 {E : En} {m : Mm} {U : State} {H : Heap} {a : Nat} (h : Hp E m U H) (ho : oS m a 101) : zA U H .byte (eB E + a) (mS m a).2 (fun j => .int (mI m a j)) := by
  have z := h.2.2 a ho.1
  rw [zc_101 ho.2] at z
  exact z
theorem zc_102 {E : En} {m : Mm} {U : State} {H : Heap} {a : Nat} (ho : (mS m a).1 = 102) : zc E m U H a = zA U H .boolean (eB E + a) (mS m a).2 (fun j => .int (mI m a j)) := by
  unfold zc
  rw [ho]
  simp
theorem Hp_102 {E : En} {m : Mm} {U : State} {H : Heap} {a : Nat} (h : Hp E m U H) (ho : oS m a 102) : zA U H .boolean (eB E + a) (mS m a).2 (fun j => .int (mI m a j)) := by
  have z := h.2.2 a ho.1
  rw [zc_102 ho.2] at z
  exact z
theorem zc_103 {E : En} {m : Mm} {U : State} {H : Heap} {a : Nat} (ho : (mS m a).1 = 103) : zc E m U H a = zA U H .long (eB E + a) (mS m a).2 (fun j => .long (mJ m a j)) := by
  unfold zc
  rw [ho]
  simp
theorem Hp_103 {E : En} {m : Mm} {U : State} {H : Heap} {a : Nat} (h : Hp E m U H) (ho : oS m a 103) : zA U H .long (eB E + a) (mS m a).2 (fun j => .long (mJ m a j)) := by
  have z := h.2.2 a ho.1
  rw [zc_103 ho.2] at z
  exact z
theorem zc_104 {E : En} {m : Mm} {U : State} {H : Heap} {a : Nat} (ho : (mS m a).1 = 104) : zc E m U H a = zA U H (.object RX7) (eB E + a) (mS m a).2 (fun j => va_rf ((mR m a j).map (ro E))) := by
  unfold zc
  rw [ho]
  simp
theorem Hp_104 {E : En} {m : Mm} {U : State} {H : Heap} {a : Nat} (h : Hp E m U H) (ho : oS m a 104) : zA U H (.object RX7) (eB E + a) (mS m a).2 (fun j => va_rf ((mR m a j).map (ro E))) := by
  have z := h.2.2 a ho.1
  rw [zc_104 ho.2] at z
  exact z
theorem Hp_new {E : En} {m : Mm} {U : State} {H H' : Heap} {t n : Nat} (h : Hp E m U H) (hz : mZ m < 1000000) (e1 : H'.size = H.size + 1) (o1 : ∀ q, q < H.size → H'[q]? = H[q]?) (hc : zc E (nA m t n) U H' (mZ m)) : Hp E (nA m t n) U H' := by
  refine ⟨by rw [e1, h.1]; rfl, hz, fun b hb => ?_⟩
  by_cases hab : b = mZ m
  · rw [hab]; exact hc
  · have hb' : b < mZ m := by
      have : b < mZ m + 1 := hb
      omega
    exact zc_kept (m := m) (up_ne hab) (up_ne hab) (up_ne hab) (up_ne hab) (o1 _ (by rw [h.1]; omega)) (h.2.2 b hb')
theorem va_S_new {A : Nat → Prop} {H0 H H' : Heap} {locs : List Loc} (hS : va_S A H0 H locs) (z1 : H.size ≤ H'.size) (o1 : ∀ q, q < H.size → H'[q]? = H[q]?) : va_S A H0 H' locs := ⟨Nat.le_trans hS.1 z1, fun x h1 h2 => (o1 x (Nat.lt_of_lt_of_le h1 hS.1)).trans (hS.2.1 x h1 h2), hS.2.2⟩
section Z6
variable {sc : Nat × (Nat → Int32)} {d mc ms : Nat} {X : MT} {pc : Nat} {L : List (Option Value)} {S : List Value} {m : Mm} {c s : Nat} {Q : Option Value → Mm → Prop}
theorem js_iald {a : Nat} {x : Int32} (hd : decode X.2.2.1 pc = .ok (.iaload, 1)) (ho : oS m a 100 ∧ vp_in x (mS m a).2) (h : Jj sc d mc ms X (pc + 1) L (.int (mI m a x.toNatClampNeg) :: S) m c s Q) : Jj sc d mc ms X pc L (.int x :: .ref a :: S) m c s Q := by
  intro E p e R st mid args below meth cd H locs ls hC hP hS hl
  obtain ⟨hx, hb, hml, hrt, hown, hts, hlk, hnm, hT, hB, hR, hsc⟩ := id hC
  obtain ⟨cA, ⟨hA1, hA2⟩, hcell⟩ := Hp_100 hP ho.1
  have hlt : x.toNatClampNeg < (mS m a).2 := Nat.not_le.mp fun q => ho.2 (Or.inr q)
  show W _ _ _ _ _ _ _ _ _ _ _ _ _ _ _ (F0 mid pc ls (.int x :: .ref (ro E a) :: S.map (rv E)))
  rw [ro_lo hP ho.1]
  exact W.iald (v := .int (mI m a x.toNatClampNeg)) hx hb hcell (hA1 _ _) (fun q => by cases q) (by show ¬ (x < 0 ∨ (arrV _ _ _).slots.size ≤ _); rw [arrV_size]; exact ho.2) (by show (arrV _ _ _).slots[_]? = _; rw [arrV_read _ _ hlt]) rfl rfl hd (h E p e R st mid args below meth cd H locs ls hC hP hS hl)
theorem js_bald {a : Nat} {x : Int32} (hd : decode X.2.2.1 pc = .ok (.baload, 1)) (ho : oS m a 101 ∧ vp_in x (mS m a).2) (h : Jj sc d mc ms X (pc + 1) L (.int (mI m a x.toNatClampNeg) :: S) m c s Q) : Jj sc d mc ms X pc L (.int x :: .ref a :: S) m c s Q := by
  intro E p e R st mid args below meth cd H locs ls hC hP hS hl
  obtain ⟨hx, hb, hml, hrt, hown, hts, hlk, hnm, hT, hB, hR, hsc⟩ := id hC
  obtain ⟨cA, ⟨hA1, hA2⟩, hcell⟩ := Hp_101 hP ho.1
  have hlt : x.toNatClampNeg < (mS m a).2 := Nat.not_le.mp fun q => ho.2 (Or.inr q)
  show W _ _ _ _ _ _ _ _ _ _ _ _ _ _ _ (F0 mid pc ls (.int x :: .ref (ro E a) :: S.map (rv E)))
  rw [ro_lo hP ho.1]
  exact W.bald (v := .int (mI m a x.toNatClampNeg)) hx hb hcell (hA1 _ _) (fun q => by cases q) (by show ¬ (x < 0 ∨ (arrV _ _ _).slots.size ≤ _); rw [arrV_size]; exact ho.2) (by show (arrV _ _ _).slots[_]? = _; rw [arrV_read _ _ hlt]) rfl rfl hd (h E p e R st mid args below meth cd H locs ls hC hP hS hl)
theorem js_zald {a : Nat} {x : Int32} (hd : decode X.2.2.1 pc = .ok (.baload, 1)) (ho : oS m a 102 ∧ vp_in x (mS m a).2) (h : Jj sc d mc ms X (pc + 1) L (.int (mI m a x.toNatClampNeg) :: S) m c s Q) : Jj sc d mc ms X pc L (.int x :: .ref a :: S) m c s Q := by
  intro E p e R st mid args below meth cd H locs ls hC hP hS hl
  obtain ⟨hx, hb, hml, hrt, hown, hts, hlk, hnm, hT, hB, hR, hsc⟩ := id hC
  obtain ⟨cA, ⟨hA1, hA2⟩, hcell⟩ := Hp_102 hP ho.1
  have hlt : x.toNatClampNeg < (mS m a).2 := Nat.not_le.mp fun q => ho.2 (Or.inr q)
  show W _ _ _ _ _ _ _ _ _ _ _ _ _ _ _ (F0 mid pc ls (.int x :: .ref (ro E a) :: S.map (rv E)))
  rw [ro_lo hP ho.1]
  exact W.zald (v := .int (mI m a x.toNatClampNeg)) hx hb hcell (hA1 _ _) (fun q => by cases q) (by show ¬ (x < 0 ∨ (arrV _ _ _).slots.size ≤ _); rw [arrV_size]; exact ho.2) (by show (arrV _ _ _).slots[_]? = _; rw [arrV_read _ _ hlt]) rfl rfl hd (h E p e R st mid args below meth cd H locs ls hC hP hS hl)
theorem js_lald {a : Nat} {x : Int32} (hd : decode X.2.2.1 pc = .ok (.laload, 1)) (ho : oS m a 103 ∧ vp_in x (mS m a).2) (h : Jj sc d mc ms X (pc + 1) L (.long (mJ m a x.toNatClampNeg) :: S) m c s Q) : Jj sc d mc ms X pc L (.int x :: .ref a :: S) m c s Q := by
  intro E p e R st mid args below meth cd H locs ls hC hP hS hl
  obtain ⟨hx, hb, hml, hrt, hown, hts, hlk, hnm, hT, hB, hR, hsc⟩ := id hC
  obtain ⟨cA, ⟨hA1, hA2⟩, hcell⟩ := Hp_103 hP ho.1
  have hlt : x.toNatClampNeg < (mS m a).2 := Nat.not_le.mp fun q => ho.2 (Or.inr q)
  show W _ _ _ _ _ _ _ _ _ _ _ _ _ _ _ (F0 mid pc ls (.int x :: .ref (ro E a) :: S.map (rv E)))
  rw [ro_lo hP ho.1]
  exact W.lald (v := .long (mJ m a x.toNatClampNeg)) hx hb hcell (hA1 _ _) (fun q => by cases q) (by show ¬ (x < 0 ∨ (arrV _ _ _).slots.size ≤ _); rw [arrV_size]; exact ho.2) (by show (arrV _ _ _).slots[_]? = _; rw [arrV_read _ _ hlt]) rfl rfl hd (h E p e R st mid args below meth cd H locs ls hC hP hS hl)
theorem js_aald {a : Nat} {x : Int32} {v : Value} (hd : decode X.2.2.1 pc = .ok (.aaload, 1)) (ho : oS m a 104 ∧ vp_in x (mS m a).2) (hv : va_rf (mR m a x.toNatClampNeg) = v) (h : Jj sc d mc ms X (pc + 1) L (v :: S) m c s Q) : Jj sc d mc ms X pc L (.int x :: .ref a :: S) m c s Q := by
  intro E p e R st mid args below meth cd H locs ls hC hP hS hl
  obtain ⟨hx, hb, hml, hrt, hown, hts, hlk, hnm, hT, hB, hR, hsc⟩ := id hC
  obtain ⟨cA, ⟨hA1, hA2⟩, hcell⟩ := Hp_104 hP ho.1
  have hlt : x.toNatClampNeg < (mS m a).2 := Nat.not_le.mp fun q => ho.2 (Or.inr q)
  show W _ _ _ _ _ _ _ _ _ _ _ _ _ _ _ (F0 mid pc ls (.int x :: .ref (ro E a) :: S.map (rv E)))
  rw [ro_lo hP ho.1]
  exact W.aald (v := rv E v) (ty := .object RX7) hx hb hcell (hA1 _ _) rfl (fun q => by cases q) (by show ¬ (x < 0 ∨ (arrV _ _ _).slots.size ≤ _); rw [arrV_size]; exact ho.2) (by show (arrV _ _ _).slots[_]? = _; rw [arrV_read _ _ hlt, ← hv, rv_rf]) rfl rfl hd (h E p e R st mid args below meth cd H locs ls hC hP hS hl)
set_option maxHeartbeats 1000000 in
theorem js_iast {a : Nat} {x : Int32} {y : Int32} (hd : decode X.2.2.1 pc = .ok (.iastore, 1)) (ho : oS m a 100 ∧ vp_in x (mS m a).2) (h : Jj sc d mc ms X (pc + 1) L S (uI m a x.toNatClampNeg y) c s Q) : Jj sc d mc ms X pc L (.int y :: .int x :: .ref a :: S) m c s Q := by
  intro E p e R st mid args below meth cd H locs ls hC hP hS hl
  obtain ⟨hx, hb, hml, hrt, hown, hts, hlk, hnm, hT, hB, hR, hsc⟩ := id hC
  obtain ⟨cA, ⟨hA1, hA2⟩, hcell⟩ := Hp_100 hP ho.1
  show W _ _ _ _ _ _ _ _ _ _ _ _ _ _ _ (F0 mid pc ls (.int y :: .int x :: .ref (ro E a) :: S.map (rv E)))
  rw [ro_lo hP ho.1]
  refine W.iast hx hb hcell (hA1 _ _) (fun q => by cases q) (by show ¬ (x < 0 ∨ (arrV _ _ _).slots.size ≤ _); rw [arrV_size]; exact ho.2) rfl rfl hd fun H1 e1 z oq => ?_
  refine h E p e R st mid args below meth cd H1 _ ls hC (Hp_upd hP rfl (fun b hb => ⟨by first | exact uI_ne hb | rfl, by first | exact uI_ne hb | rfl, rfl, rfl⟩) z oq fun _ => ?_) (hS.put z oq (Nat.le_add_right _ _)) hl
  rw [zc_100 (show (mS (uI m a x.toNatClampNeg y) a).1 = 100 from ho.1.2)]
  refine ⟨cA, ⟨hA1, hA2⟩, ?_⟩
  rw [e1, arrV_store, uI_eq]
  show some (arrV cA (mS m a).2 _) = some (arrV cA (mS m a).2 _)
  congr 2
  funext q
  by_cases hq : q = x.toNatClampNeg
  · subst hq
    simp [updV, upd, vp_updL, vp_nar]
    try rfl
  · simp [updV, upd, vp_updL, hq]
set_option maxHeartbeats 1000000 in
theorem js_bast {a : Nat} {x : Int32} {y : Int32} (hd : decode X.2.2.1 pc = .ok (.bastore, 1)) (ho : oS m a 101 ∧ vp_in x (mS m a).2) (h : Jj sc d mc ms X (pc + 1) L S (uI m a x.toNatClampNeg (vp_nar .byte y)) c s Q) : Jj sc d mc ms X pc L (.int y :: .int x :: .ref a :: S) m c s Q := by
  intro E p e R st mid args below meth cd H locs ls hC hP hS hl
  obtain ⟨hx, hb, hml, hrt, hown, hts, hlk, hnm, hT, hB, hR, hsc⟩ := id hC
  obtain ⟨cA, ⟨hA1, hA2⟩, hcell⟩ := Hp_101 hP ho.1
  show W _ _ _ _ _ _ _ _ _ _ _ _ _ _ _ (F0 mid pc ls (.int y :: .int x :: .ref (ro E a) :: S.map (rv E)))
  rw [ro_lo hP ho.1]
  refine W.bast hx hb hcell (hA1 _ _) (fun q => by cases q) (by show ¬ (x < 0 ∨ (arrV _ _ _).slots.size ≤ _); rw [arrV_size]; exact ho.2) rfl rfl hd fun H1 e1 z oq => ?_
  refine h E p e R st mid args below meth cd H1 _ ls hC (Hp_upd hP rfl (fun b hb => ⟨by first | exact uI_ne hb | rfl, by first | exact uI_ne hb | rfl, rfl, rfl⟩) z oq fun _ => ?_) (hS.put z oq (Nat.le_add_right _ _)) hl
  rw [zc_101 (show (mS (uI m a x.toNatClampNeg (vp_nar .byte y)) a).1 = 101 from ho.1.2)]
  refine ⟨cA, ⟨hA1, hA2⟩, ?_⟩
  rw [e1, arrV_store, uI_eq]
  show some (arrV cA (mS m a).2 _) = some (arrV cA (mS m a).2 _)
  congr 2
  funext q
  by_cases hq : q = x.toNatClampNeg
  · subst hq
    simp [updV, upd, vp_updL, vp_nar]
    try rfl
  · simp [updV, upd, vp_updL, hq]
set_option maxHeartbeats 1000000 in
theorem js_zast {a : Nat} {x : Int32} {y : Int32} (hd : decode X.2.2.1 pc = .ok (.bastore, 1)) (ho : oS m a 102 ∧ vp_in x (mS m a).2) (h : Jj sc d mc ms X (pc + 1) L S (uI m a x.toNatClampNeg (vp_nar .boolean y)) c s Q) : Jj sc d mc ms X pc L (.int y :: .int x :: .ref a :: S) m c s Q := by
  intro E p e R st mid args below meth cd H locs ls hC hP hS hl
  obtain ⟨hx, hb, hml, hrt, hown, hts, hlk, hnm, hT, hB, hR, hsc⟩ := id hC
  obtain ⟨cA, ⟨hA1, hA2⟩, hcell⟩ := Hp_102 hP ho.1
  show W _ _ _ _ _ _ _ _ _ _ _ _ _ _ _ (F0 mid pc ls (.int y :: .int x :: .ref (ro E a) :: S.map (rv E)))
  rw [ro_lo hP ho.1]
  refine W.zast hx hb hcell (hA1 _ _) (fun q => by cases q) (by show ¬ (x < 0 ∨ (arrV _ _ _).slots.size ≤ _); rw [arrV_size]; exact ho.2) rfl rfl hd fun H1 e1 z oq => ?_
  refine h E p e R st mid args below meth cd H1 _ ls hC (Hp_upd hP rfl (fun b hb => ⟨by first | exact uI_ne hb | rfl, by first | exact uI_ne hb | rfl, rfl, rfl⟩) z oq fun _ => ?_) (hS.put z oq (Nat.le_add_right _ _)) hl
  rw [zc_102 (show (mS (uI m a x.toNatClampNeg (vp_nar .boolean y)) a).1 = 102 from ho.1.2)]
  refine ⟨cA, ⟨hA1, hA2⟩, ?_⟩
  rw [e1, arrV_store, uI_eq]
  show some (arrV cA (mS m a).2 _) = some (arrV cA (mS m a).2 _)
  congr 2
  funext q
  by_cases hq : q = x.toNatClampNeg
  · subst hq
    simp [updV, upd, vp_updL, vp_nar]
    try rfl
  · simp [updV, upd, vp_updL, hq]
set_option maxHeartbeats 1000000 in
theorem js_last {a : Nat} {x : Int32} {y : Int64} (hd : decode X.2.2.1 pc = .ok (.lastore, 1)) (ho : oS m a 103 ∧ vp_in x (mS m a).2) (h : Jj sc d mc ms X (pc + 1) L S (uJ m a x.toNatClampNeg y) c s Q) : Jj sc d mc ms X pc L (.long y :: .int x :: .ref a :: S) m c s Q := by
  intro E p e R st mid args below meth cd H locs ls hC hP hS hl
  obtain ⟨hx, hb, hml, hrt, hown, hts, hlk, hnm, hT, hB, hR, hsc⟩ := id hC
  obtain ⟨cA, ⟨hA1, hA2⟩, hcell⟩ := Hp_103 hP ho.1
  show W _ _ _ _ _ _ _ _ _ _ _ _ _ _ _ (F0 mid pc ls (.long y :: .int x :: .ref (ro E a) :: S.map (rv E)))
  rw [ro_lo hP ho.1]
  refine W.last hx hb hcell (hA1 _ _) (fun q => by cases q) (by show ¬ (x < 0 ∨ (arrV _ _ _).slots.size ≤ _); rw [arrV_size]; exact ho.2) rfl rfl hd fun H1 e1 z oq => ?_
  refine h E p e R st mid args below meth cd H1 _ ls hC (Hp_upd hP rfl (fun b hb => ⟨by first | exact uJ_ne hb | rfl, by first | exact uJ_ne hb | rfl, rfl, rfl⟩) z oq fun _ => ?_) (hS.put z oq (Nat.le_add_right _ _)) hl
  rw [zc_103 (show (mS (uJ m a x.toNatClampNeg y) a).1 = 103 from ho.1.2)]
  refine ⟨cA, ⟨hA1, hA2⟩, ?_⟩
  rw [e1, arrV_store, uJ_eq]
  show some (arrV cA (mS m a).2 _) = some (arrV cA (mS m a).2 _)
  congr 2
  funext q
  by_cases hq : q = x.toNatClampNeg
  · subst hq
    simp [updV, upd, vp_updL, vp_nar]
    try rfl
  · simp [updV, upd, vp_updL, hq]
set_option maxHeartbeats 1000000 in
theorem js_aast {a b : Nat} {x : Int32} (hd : decode X.2.2.1 pc = .ok (.aastore, 1)) (ho : oS m a 104 ∧ vp_in x (mS m a).2 ∧ oS m b 6) (h : Jj sc d mc ms X (pc + 1) L S (uR m a x.toNatClampNeg (some b)) c s Q) : Jj sc d mc ms X pc L (.ref b :: .int x :: .ref a :: S) m c s Q := by
  intro E p e R st mid args below meth cd H locs ls hC hP hS hl
  obtain ⟨hx, hb, hml, hrt, hown, hts, hlk, hnm, hT, hB, hR, hsc⟩ := id hC
  obtain ⟨cA, ⟨hA1, hA2⟩, hcell⟩ := Hp_104 hP ho.1
  obtain ⟨ho1, hin, ho2⟩ := ho
  obtain ⟨r, h1, hN, cellV, g1, g2, g3, g4⟩ := Hp_obj hP ho2 (by decide)
  cases h1
  have hcls := (hT.1.1 6 _ rfl).2
  have hlt : x.toNatClampNeg < (mS m a).2 := Nat.not_le.mp fun q => hin (Or.inr q)
  have h0 : ¬ x < 0 := fun q => hin (Or.inl q)
  obtain ⟨kA, comp, k1, k2, k3, k4⟩ := id hA2
  have hcomp : comp = (eD E).1 6 := Option.some.inj (k3.symm.trans hcls.1)
  subst hcomp
  obtain ⟨kC, hkC, -⟩ := id hcls.2
  show W _ _ _ _ _ _ _ _ _ _ _ _ _ _ _ (F0 mid pc ls (.ref (ro E b) :: .int x :: .ref (ro E a) :: S.map (rv E)))
  rw [ro_lo hP ho1, ro_lo hP ho2]
  refine W.aast hx hb hcell (fun q h => by cases h) (fun h => by cases h) k1 k2 rfl hkC ⟨h0, by show _ < (arrV _ _ _).slots.size; rw [arrV_size]; exact hlt⟩ g1 (fun q h => by rw [g3] at h; cases h) (by rw [g2]; exact hkC) (by rw [g2]; exact va_assign hcls) rfl rfl hd fun H1 e1 z oq => ?_
  refine h E p e R st mid args below meth cd H1 _ ls hC (Hp_upd hP rfl (fun b' hb => ⟨rfl, rfl, uR_ne hb, rfl⟩) z oq fun _ => ?_) (hS.put z oq (Nat.le_add_right _ _)) hl
  rw [zc_104 (show (mS (uR m a x.toNatClampNeg (some b)) a).1 = 104 from ho1.2)]
  refine ⟨cA, ⟨hA1, hA2⟩, ?_⟩
  rw [e1, arrV_store, uR_eq]
  show some (arrV cA (mS m a).2 _) = some (arrV cA (mS m a).2 _)
  congr 2
  funext q
  by_cases hq : q = x.toNatClampNeg
  · subst hq
    simp [updV, va_up, va_rf, ro_lo hP ho2]
  · simp [updV, va_up, hq]
theorem js_alen100 {a : Nat} (hd : decode X.2.2.1 pc = .ok (.arraylength, 1)) (ho : oS m a 100) (h : Jj sc d mc ms X (pc + 1) L (.int (nI (mS m a).2) :: S) m c s Q) : Jj sc d mc ms X pc L (.ref a :: S) m c s Q := by
  intro E p e R st mid args below meth cd H locs ls hC hP hS hl
  obtain ⟨hx, hb, hml, hrt, hown, hts, hlk, hnm, hT, hB, hR, hsc⟩ := id hC
  obtain ⟨cA, ⟨hA1, hA2⟩, hcell⟩ := Hp_100 hP ho
  show W _ _ _ _ _ _ _ _ _ _ _ _ _ _ _ (F0 mid pc ls (.ref (ro E a) :: S.map (rv E)))
  rw [ro_lo hP ho]
  exact W.alen (n := nI (mS m a).2) hx hb hcell (hA1 _ _) (by rw [arrV_size]; rfl) rfl rfl hd (h E p e R st mid args below meth cd H locs ls hC hP hS hl)
theorem js_alen101 {a : Nat} (hd : decode X.2.2.1 pc = .ok (.arraylength, 1)) (ho : oS m a 101) (h : Jj sc d mc ms X (pc + 1) L (.int (nI (mS m a).2) :: S) m c s Q) : Jj sc d mc ms X pc L (.ref a :: S) m c s Q := by
  intro E p e R st mid args below meth cd H locs ls hC hP hS hl
  obtain ⟨hx, hb, hml, hrt, hown, hts, hlk, hnm, hT, hB, hR, hsc⟩ := id hC
  obtain ⟨cA, ⟨hA1, hA2⟩, hcell⟩ := Hp_101 hP ho
  show W _ _ _ _ _ _ _ _ _ _ _ _ _ _ _ (F0 mid pc ls (.ref (ro E a) :: S.map (rv E)))
  rw [ro_lo hP ho]
  exact W.alen (n := nI (mS m a).2) hx hb hcell (hA1 _ _) (by rw [arrV_size]; rfl) rfl rfl hd (h E p e R st mid args below meth cd H locs ls hC hP hS hl)
theorem js_alen102 {a : Nat} (hd : decode X.2.2.1 pc = .ok (.arraylength, 1)) (ho : oS m a 102) (h : Jj sc d mc ms X (pc + 1) L (.int (nI (mS m a).2) :: S) m c s Q) : Jj sc d mc ms X pc L (.ref a :: S) m c s Q := by
  intro E p e R st mid args below meth cd H locs ls hC hP hS hl
  obtain ⟨hx, hb, hml, hrt, hown, hts, hlk, hnm, hT, hB, hR, hsc⟩ := id hC
  obtain ⟨cA, ⟨hA1, hA2⟩, hcell⟩ := Hp_102 hP ho
  show W _ _ _ _ _ _ _ _ _ _ _ _ _ _ _ (F0 mid pc ls (.ref (ro E a) :: S.map (rv E)))
  rw [ro_lo hP ho]
  exact W.alen (n := nI (mS m a).2) hx hb hcell (hA1 _ _) (by rw [arrV_size]; rfl) rfl rfl hd (h E p e R st mid args below meth cd H locs ls hC hP hS hl)
theorem js_alen103 {a : Nat} (hd : decode X.2.2.1 pc = .ok (.arraylength, 1)) (ho : oS m a 103) (h : Jj sc d mc ms X (pc + 1) L (.int (nI (mS m a).2) :: S) m c s Q) : Jj sc d mc ms X pc L (.ref a :: S) m c s Q := by
  intro E p e R st mid args below meth cd H locs ls hC hP hS hl
  obtain ⟨hx, hb, hml, hrt, hown, hts, hlk, hnm, hT, hB, hR, hsc⟩ := id hC
  obtain ⟨cA, ⟨hA1, hA2⟩, hcell⟩ := Hp_103 hP ho
  show W _ _ _ _ _ _ _ _ _ _ _ _ _ _ _ (F0 mid pc ls (.ref (ro E a) :: S.map (rv E)))
  rw [ro_lo hP ho]
  exact W.alen (n := nI (mS m a).2) hx hb hcell (hA1 _ _) (by rw [arrV_size]; rfl) rfl rfl hd (h E p e R st mid args below meth cd H locs ls hC hP hS hl)
theorem js_alen104 {a : Nat} (hd : decode X.2.2.1 pc = .ok (.arraylength, 1)) (ho : oS m a 104) (h : Jj sc d mc ms X (pc + 1) L (.int (nI (mS m a).2) :: S) m c s Q) : Jj sc d mc ms X pc L (.ref a :: S) m c s Q := by
  intro E p e R st mid args below meth cd H locs ls hC hP hS hl
  obtain ⟨hx, hb, hml, hrt, hown, hts, hlk, hnm, hT, hB, hR, hsc⟩ := id hC
  obtain ⟨cA, ⟨hA1, hA2⟩, hcell⟩ := Hp_104 hP ho
  show W _ _ _ _ _ _ _ _ _ _ _ _ _ _ _ (F0 mid pc ls (.ref (ro E a) :: S.map (rv E)))
  rw [ro_lo hP ho]
  exact W.alen (n := nI (mS m a).2) hx hb hcell (hA1 _ _) (by rw [arrV_size]; rfl) rfl rfl hd (h E p e R st mid args below meth cd H locs ls hC hP hS hl)
set_option maxHeartbeats 1000000 in
theorem js_newa100 {x : Int32} (hd : decode X.2.2.1 pc = .ok (.newarray .int, 2)) (hw : Cond.arrayClass .int ∈ BIG) (hn : ¬ x < 0 ∧ x.toNatClampNeg ≤ 10000 ∧ c + 1 ≤ mc ∧ s + x.toNatClampNeg ≤ ms ∧ mZ m < 999999) (h : Jj sc d mc ms X (pc + 2) L (.ref (mZ m) :: S) (nA m 100 x.toNatClampNeg) (c + 1) (s + x.toNatClampNeg) Q) : Jj sc d mc ms X pc L (.int x :: S) m c s Q := by
  intro E p e R st mid args below meth cd H locs ls hC hP hS hl
  obtain ⟨hx, hb, hml, hrt, hown, hts, hlk, hnm, hT, hB, hR, hsc⟩ := id hC
  obtain ⟨h0, hN, hc1, hs1, hz⟩ := hn
  obtain ⟨-, -, hRc, hRs⟩ := hR
  refine va_newaK (atype := .int) hx hb (hts _ hw) (g := F0 mid pc ls (.int x :: S.map (rv E))) rfl hd rfl h0 rfl (by show _ * componentBytes .int ≤ _; simp only [componentBytes]; omega) (by omega) (by omega) rfl fun H' cA e1 z1 o1 hAr hNm => ?_
  have hP' : Hp E (nA m 100 x.toNatClampNeg) st H' := by
    refine Hp_new hP (by omega) z1 o1 ?_
    rw [zc_100 (show (mS (nA m 100 x.toNatClampNeg) (mZ m)).1 = 100 by simp [mS, nA, mZ, va_up])]
    refine ⟨cA, ⟨hAr, hNm⟩, ?_⟩
    rw [← hP.1, e1]
    have e2 : (mS (nA m 100 x.toNatClampNeg) (mZ m)).2 = x.toNatClampNeg := by simp [mS, nA, mZ, va_up]
    rw [e2]
    congr 2
    funext j
    simp [mI, nA, mZ, va_up, defaultValue, newarray.typeOf]
  have hk := h E p e R st mid args below meth cd H' locs ls hC hP' (va_S_new hS (by omega) o1) hl
  have er : ro E (mZ m) = H.size := by rw [hP.1]; exact if_pos (by omega)
  have e9 : (Value.ref (mZ m) :: S).map (rv E) = .ref H.size :: S.map (rv E) := by rw [List.map_cons, ← er]; rfl
  rw [e9] at hk
  exact hk
set_option maxHeartbeats 1000000 in
theorem js_newa101 {x : Int32} (hd : decode X.2.2.1 pc = .ok (.newarray .byte, 2)) (hw : Cond.arrayClass .byte ∈ BIG) (hn : ¬ x < 0 ∧ x.toNatClampNeg ≤ 10000 ∧ c + 1 ≤ mc ∧ s + x.toNatClampNeg ≤ ms ∧ mZ m < 999999) (h : Jj sc d mc ms X (pc + 2) L (.ref (mZ m) :: S) (nA m 101 x.toNatClampNeg) (c + 1) (s + x.toNatClampNeg) Q) : Jj sc d mc ms X pc L (.int x :: S) m c s Q := by
  intro E p e R st mid args below meth cd H locs ls hC hP hS hl
  obtain ⟨hx, hb, hml, hrt, hown, hts, hlk, hnm, hT, hB, hR, hsc⟩ := id hC
  obtain ⟨h0, hN, hc1, hs1, hz⟩ := hn
  obtain ⟨-, -, hRc, hRs⟩ := hR
  refine va_newaK (atype := .byte) hx hb (hts _ hw) (g := F0 mid pc ls (.int x :: S.map (rv E))) rfl hd rfl h0 rfl (by show _ * componentBytes .byte ≤ _; simp only [componentBytes]; omega) (by omega) (by omega) rfl fun H' cA e1 z1 o1 hAr hNm => ?_
  have hP' : Hp E (nA m 101 x.toNatClampNeg) st H' := by
    refine Hp_new hP (by omega) z1 o1 ?_
    rw [zc_101 (show (mS (nA m 101 x.toNatClampNeg) (mZ m)).1 = 101 by simp [mS, nA, mZ, va_up])]
    refine ⟨cA, ⟨hAr, hNm⟩, ?_⟩
    rw [← hP.1, e1]
    have e2 : (mS (nA m 101 x.toNatClampNeg) (mZ m)).2 = x.toNatClampNeg := by simp [mS, nA, mZ, va_up]
    rw [e2]
    congr 2
    funext j
    simp [mI, nA, mZ, va_up, defaultValue, newarray.typeOf]
  have hk := h E p e R st mid args below meth cd H' locs ls hC hP' (va_S_new hS (by omega) o1) hl
  have er : ro E (mZ m) = H.size := by rw [hP.1]; exact if_pos (by omega)
  have e9 : (Value.ref (mZ m) :: S).map (rv E) = .ref H.size :: S.map (rv E) := by rw [List.map_cons, ← er]; rfl
  rw [e9] at hk
  exact hk
set_option maxHeartbeats 1000000 in
theorem js_newa102 {x : Int32} (hd : decode X.2.2.1 pc = .ok (.newarray .boolean, 2)) (hw : Cond.arrayClass .boolean ∈ BIG) (hn : ¬ x < 0 ∧ x.toNatClampNeg ≤ 10000 ∧ c + 1 ≤ mc ∧ s + x.toNatClampNeg ≤ ms ∧ mZ m < 999999) (h : Jj sc d mc ms X (pc + 2) L (.ref (mZ m) :: S) (nA m 102 x.toNatClampNeg) (c + 1) (s + x.toNatClampNeg) Q) : Jj sc d mc ms X pc L (.int x :: S) m c s Q := by
  intro E p e R st mid args below meth cd H locs ls hC hP hS hl
  obtain ⟨hx, hb, hml, hrt, hown, hts, hlk, hnm, hT, hB, hR, hsc⟩ := id hC
  obtain ⟨h0, hN, hc1, hs1, hz⟩ := hn
  obtain ⟨-, -, hRc, hRs⟩ := hR
  refine va_newaK (atype := .boolean) hx hb (hts _ hw) (g := F0 mid pc ls (.int x :: S.map (rv E))) rfl hd rfl h0 rfl (by show _ * componentBytes .boolean ≤ _; simp only [componentBytes]; omega) (by omega) (by omega) rfl fun H' cA e1 z1 o1 hAr hNm => ?_
  have hP' : Hp E (nA m 102 x.toNatClampNeg) st H' := by
    refine Hp_new hP (by omega) z1 o1 ?_
    rw [zc_102 (show (mS (nA m 102 x.toNatClampNeg) (mZ m)).1 = 102 by simp [mS, nA, mZ, va_up])]
    refine ⟨cA, ⟨hAr, hNm⟩, ?_⟩
    rw [← hP.1, e1]
    have e2 : (mS (nA m 102 x.toNatClampNeg) (mZ m)).2 = x.toNatClampNeg := by simp [mS, nA, mZ, va_up]
    rw [e2]
    congr 2
    funext j
    simp [mI, nA, mZ, va_up, defaultValue, newarray.typeOf]
  have hk := h E p e R st mid args below meth cd H' locs ls hC hP' (va_S_new hS (by omega) o1) hl
  have er : ro E (mZ m) = H.size := by rw [hP.1]; exact if_pos (by omega)
  have e9 : (Value.ref (mZ m) :: S).map (rv E) = .ref H.size :: S.map (rv E) := by rw [List.map_cons, ← er]; rfl
  rw [e9] at hk
  exact hk
set_option maxHeartbeats 1000000 in
theorem js_newa103 {x : Int32} (hd : decode X.2.2.1 pc = .ok (.newarray .long, 2)) (hw : Cond.arrayClass .long ∈ BIG) (hn : ¬ x < 0 ∧ x.toNatClampNeg ≤ 10000 ∧ c + 1 ≤ mc ∧ s + x.toNatClampNeg ≤ ms ∧ mZ m < 999999) (h : Jj sc d mc ms X (pc + 2) L (.ref (mZ m) :: S) (nA m 103 x.toNatClampNeg) (c + 1) (s + x.toNatClampNeg) Q) : Jj sc d mc ms X pc L (.int x :: S) m c s Q := by
  intro E p e R st mid args below meth cd H locs ls hC hP hS hl
  obtain ⟨hx, hb, hml, hrt, hown, hts, hlk, hnm, hT, hB, hR, hsc⟩ := id hC
  obtain ⟨h0, hN, hc1, hs1, hz⟩ := hn
  obtain ⟨-, -, hRc, hRs⟩ := hR
  refine va_newaK (atype := .long) hx hb (hts _ hw) (g := F0 mid pc ls (.int x :: S.map (rv E))) rfl hd rfl h0 rfl (by show _ * componentBytes .long ≤ _; simp only [componentBytes]; omega) (by omega) (by omega) rfl fun H' cA e1 z1 o1 hAr hNm => ?_
  have hP' : Hp E (nA m 103 x.toNatClampNeg) st H' := by
    refine Hp_new hP (by omega) z1 o1 ?_
    rw [zc_103 (show (mS (nA m 103 x.toNatClampNeg) (mZ m)).1 = 103 by simp [mS, nA, mZ, va_up])]
    refine ⟨cA, ⟨hAr, hNm⟩, ?_⟩
    rw [← hP.1, e1]
    have e2 : (mS (nA m 103 x.toNatClampNeg) (mZ m)).2 = x.toNatClampNeg := by simp [mS, nA, mZ, va_up]
    rw [e2]
    congr 2
    funext j
    simp [mJ, nA, mZ, va_up, defaultValue, newarray.typeOf]
  have hk := h E p e R st mid args below meth cd H' locs ls hC hP' (va_S_new hS (by omega) o1) hl
  have er : ro E (mZ m) = H.size := by rw [hP.1]; exact if_pos (by omega)
  have e9 : (Value.ref (mZ m) :: S).map (rv E) = .ref H.size :: S.map (rv E) := by rw [List.map_cons, ← er]; rfl
  rw [e9] at hk
  exact hk
set_option maxHeartbeats 1000000 in
theorem js_anew {x : Int32} {index : Nat} (hd : decode X.2.2.1 pc = .ok (.anewarray index, 3)) (hw : Cond.classLink X.1 index "PrayerWay$State" ∈ BIG) (hn : ¬ x < 0 ∧ x.toNatClampNeg ≤ 10000 ∧ c + 1 ≤ mc ∧ s + x.toNatClampNeg ≤ ms ∧ mZ m < 999999) (h : Jj sc d mc ms X (pc + 3) L (.ref (mZ m) :: S) (nA m 104 x.toNatClampNeg) (c + 1) (s + x.toNatClampNeg) Q) : Jj sc d mc ms X pc L (.int x :: S) m c s Q := by
  intro E p e R st mid args below meth cd H locs ls hC hP hS hl
  obtain ⟨hx, hb, hml, hrt, hown, hts, hlk, hnm, hT, hB, hR, hsc⟩ := id hC
  obtain ⟨h0, hN, hc1, hs1, hz⟩ := hn
  obtain ⟨-, -, hRc, hRs⟩ := hR
  refine W.anew hx hb hown (hts _ hw) (va_AO.use hT.2.2.2.2.2.2.1) (g := F0 mid pc ls (.int x :: S.map (rv E))) rfl hd rfl h0 (by omega) (by omega) (by omega) fun cA kA comp f1 f2 f3 f4 => ?_
  generalize hH1 : H.push { cls := cA, slots := Array.replicate x.toNatClampNeg .null, vm := .none } = H'
  have e1 : H'[H.size]? = some (arrV cA x.toNatClampNeg (fun _ => .null)) := by rw [← hH1, Array.getElem?_push_size, ← arrV_new]
  have z1 : H'.size = H.size + 1 := by rw [← hH1]; simp
  have o1 : ∀ q : Nat, q < H.size → H'[q]? = H[q]? := fun q hq => by rw [← hH1, Array.getElem?_push, if_neg (Nat.ne_of_lt hq)]
  have hAr : ArrOfT st cA (.object RX7) := fun N z => ⟨(fun k h => by cases h), kA, f2, comp, f3⟩
  have hP' : Hp E (nA m 104 x.toNatClampNeg) st H' := by
    refine Hp_new hP (by omega) z1 o1 ?_
    rw [zc_104 (show (mS (nA m 104 x.toNatClampNeg) (mZ m)).1 = 104 by simp [mS, nA, mZ, va_up])]
    refine ⟨cA, ⟨hAr, kA, comp, f2, f3, f4, f1⟩, ?_⟩
    rw [← hP.1, e1]
    have e2 : (mS (nA m 104 x.toNatClampNeg) (mZ m)).2 = x.toNatClampNeg := by simp [mS, nA, mZ, va_up]
    rw [e2]
    congr 2
    funext j
    simp [mR, nA, mZ, va_up, va_rf]
  have hk := h E p e R st mid args below meth cd H' locs ls hC hP' (va_S_new hS (by omega) o1) hl
  have er : ro E (mZ m) = H.size := by rw [hP.1]; exact if_pos (by omega)
  have e9 : (Value.ref (mZ m) :: S).map (rv E) = .ref H.size :: S.map (rv E) := by rw [List.map_cons, ← er]; rfl
  rw [e9] at hk
  exact hk
theorem df_fv (E : En) {m : Mm} {t n k : Nat} (h : kdOk (kd t k) (fty t k) = true) : defaultValue (fty t k) = fv E (nA m t n) t (mZ m) k := by
  have e1 : mI (nA m t n) (mZ m) k = 0 := by simp [mI, nA, mZ, va_up]
  have e2 : mJ (nA m t n) (mZ m) k = 0 := by simp [mJ, nA, mZ, va_up]
  have e3 : mR (nA m t n) (mZ m) k = none := by simp [mR, nA, mZ, va_up]
  unfold fv
  rw [e1, e2, e3]
  unfold kdOk at h
  split at h <;> simp_all [defaultValue, va_rf]
set_option maxHeartbeats 1000000 in
theorem js_new {t index : Nat} {r : vw_C} (hc : vwCl[t]? = some r) (ht : t < 50) (hd : decode X.2.2.1 pc = .ok (.new index, 3)) (hw1 : Cond.classLink X.1 index r.1 ∈ BIG) (hw2 : Cond.instantiable r.1 r.2.2 ∈ BIG) (hw3 : Cond.initialized r.1 ∈ BIG) (hn : c + 1 ≤ mc ∧ s + r.2.2 ≤ ms ∧ mZ m < 999999) (h : Jj sc d mc ms X (pc + 3) L (.ref (mZ m) :: S) (nA m t r.2.2) (c + 1) (s + r.2.2) Q) : Jj sc d mc ms X pc L S m c s Q := by
  intro E p e R st mid args below meth cd H locs ls hC hP hS hl
  obtain ⟨hx, hb, hml, hrt, hown, hts, hlk, hnm, hT, hB, hR, hsc⟩ := id hC
  obtain ⟨hc1, hs1, hz⟩ := hn
  obtain ⟨-, -, hRc, hRs⟩ := hR
  have hKn := hT.1.1 t _ hc
  obtain ⟨hin, hty, hnn, hkk⟩ := clF t r hc
  refine W.newcK hx hb hown (hts _ hw1) (hts _ hw2) (hts _ hw3) (g := F0 mid pc ls (S.map (rv E))) rfl hd (by omega) (by omega) hKn.2.1 rfl fun H' kC hkC e1 z1 o1 => ?_
  have hP' : Hp E (nA m t r.2.2) st H' := by
    refine Hp_new hP (by omega) z1 o1 ?_
    unfold zc
    have e2 : mS (nA m t r.2.2) (mZ m) = (t, r.2.2) := by simp [mS, nA, mZ, va_up]
    rw [e2, if_pos ht]
    refine ⟨r, hc, rfl, ?_⟩
    rw [← hP.1]
    exact (u_born (fty t) hts hin hKn hkC e1 hty).to (fun k hk => df_fv E (hkk k hk))
  have hk := h E p e R st mid args below meth cd H' locs ls hC hP' (va_S_new hS (by omega) o1) hl
  have er : ro E (mZ m) = H.size := by rw [hP.1]; exact if_pos (by omega)
  have e9 : (Value.ref (mZ m) :: S).map (rv E) = .ref H.size :: S.map (rv E) := by rw [List.map_cons, ← er]; rfl
  rw [e9] at hk
  exact hk
/-! what was there: the static row, the script, texts -/
theorem js_tabLd {x : Int32} (hd : decode X.2.2.1 pc = .ok (.iaload, 1)) (hin : vp_in x roomL.length) (h : Jj sc d mc ms X (pc + 1) L (.int (roomL.getD x.toNatClampNeg 0) :: S) m c s Q) : Jj sc d mc ms X pc L (.int x :: .ref 3000001 :: S) m c s Q := by
  intro E p e R st mid args below meth cd H locs ls hC hP hS hl
  obtain ⟨hx, hb, hml, hrt, hown, hts, hlk, hnm, hT, hB, hR, hsc⟩ := id hC
  exact va_ti hx hb hT.2.2.1.2 hS hin rfl hd (h E p e R st mid args below meth cd H locs ls hC hP hS hl)
theorem js_tabLen (hd : decode X.2.2.1 pc = .ok (.arraylength, 1)) (h : Jj sc d mc ms X (pc + 1) L (.int (nI roomL.length) :: S) m c s Q) : Jj sc d mc ms X pc L (.ref 3000001 :: S) m c s Q := by
  intro E p e R st mid args below meth cd H locs ls hC hP hS hl
  obtain ⟨hx, hb, hml, hrt, hown, hts, hlk, hnm, hT, hB, hR, hsc⟩ := id hC
  exact va_tlen hx hb hT.2.2.1.2 hS rfl hd (h E p e R st mid args below meth cd H locs ls hC hP hS hl)
theorem js_scrLd {x : Int32} (hd : decode X.2.2.1 pc = .ok (.iaload, 1)) (hin : vp_in x sc.1) (h : Jj sc d mc ms X (pc + 1) L (.int (sc.2 x.toNatClampNeg) :: S) m c s Q) : Jj sc d mc ms X pc L (.int x :: .ref 3000000 :: S) m c s Q := by
  intro E p e R st mid args below meth cd H locs ls hC hP hS hl
  obtain ⟨hx, hb, hml, hrt, hown, hts, hlk, hnm, hT, hB, hR, hsc⟩ := id hC
  obtain ⟨hX, hbl⟩ := hT.2.2.2.2.2.1
  rw [hsc.1, hsc.2] at hX
  exact va_sld (A := eA E) hx hb hX (Nat.lt_of_lt_of_le hbl hB) (Nat.not_le.mpr hbl) hS hin hd (h E p e R st mid args below meth cd H locs ls hC hP hS hl)
theorem js_scrLen (hd : decode X.2.2.1 pc = .ok (.arraylength, 1)) (h : Jj sc d mc ms X (pc + 1) L (.int (nI sc.1) :: S) m c s Q) : Jj sc d mc ms X pc L (.ref 3000000 :: S) m c s Q := by
  intro E p e R st mid args below meth cd H locs ls hC hP hS hl
  obtain ⟨hx, hb, hml, hrt, hown, hts, hlk, hnm, hT, hB, hR, hsc⟩ := id hC
  obtain ⟨hX, hbl⟩ := hT.2.2.2.2.2.1
  rw [hsc.1, hsc.2] at hX
  exact va_slen (A := eA E) hx hb hX (Nat.lt_of_lt_of_le hbl hB) (Nat.not_le.mpr hbl) hS hd (h E p e R st mid args below meth cd H locs ls hC hP hS hl)
theorem js_gstRoom {index : Nat} {host : String} (hd : decode X.2.2.1 pc = .ok (.getstatic index, 3)) (hw : Cond.fieldLinkNest X.1 index "PrayerWay" "ROOM" "[I" host ∈ tables_1) (h : Jj sc d mc ms X (pc + 3) L (.ref 3000001 :: S) m c s Q) : Jj sc d mc ms X pc L S m c s Q := by
  intro E p e R st mid args below meth cd H locs ls hC hP hS hl
  obtain ⟨hx, hb, hml, hrt, hown, hts, hlk, hnm, hT, hB, hR, hsc⟩ := id hC
  exact va_getsN hx hb hT.2.2.1.1 hS hown (va_Nw.use rfl (hT.2.2.2.2.2.2.2.1 _ _ _ _ _ _ hw)) (fun _ h => h) hd (h E p e R st mid args below meth cd H locs ls hC hP hS hl)
theorem js_gstComp {index : Nat} (hd : decode X.2.2.1 pc = .ok (.getstatic index, 3)) (hw : Cond.fieldLink X.1 index "java/lang/String" "COMPACT_STRINGS" "Z" ∈ BIG) (h : Jj sc d mc ms X (pc + 3) L (.int 1 :: S) m c s Q) : Jj sc d mc ms X pc L S m c s Q := by
  intro E p e R st mid args below meth cd H locs ls hC hP hS hl
  obtain ⟨hx, hb, hml, hrt, hown, hts, hlk, hnm, hT, hB, hR, hsc⟩ := id hC
  exact va_gets hx hb hT.2.2.2.1 hS hown (hts _ hw) (fun _ h => h) hd (h E p e R st mid args below meth cd H locs ls hC hP hS hl)
theorem js_gstForm {index : Nat} (hd : decode X.2.2.1 pc = .ok (.getstatic index, 3)) (hw : Cond.fieldLink X.1 index "jdk/internal/util/Preconditions" "SIOOBE_FORMATTER" "Ljava/util/function/BiFunction;" ∈ BIG) (h1 : Jj sc d mc ms X (pc + 3) L (.null :: S) m c s Q) (h2 : Jj sc d mc ms X (pc + 3) L (.ref 3000002 :: S) m c s Q) : Jj sc d mc ms X pc L S m c s Q := by
  intro E p e R st mid args below meth cd H locs ls hC hP hS hl
  obtain ⟨hx, hb, hml, hrt, hown, hts, hlk, hnm, hT, hB, hR, hsc⟩ := id hC
  rcases hT.2.2.2.2.1 with hZ | hZ
  · exact va_gets hx hb hZ hS hown (hts _ hw) (fun _ h => h) hd (h1 E p e R st mid args below meth cd H locs ls hC hP hS hl)
  · exact va_gets hx hb hZ hS hown (hts _ hw) (fun _ h => h) hd (h2 E p e R st mid args below meth cd H locs ls hC hP hS hl)
theorem sOk_at {E : En} {U : State} {H : Heap} {i : Nat} (hT : Tb E U H) (hi : i < sS.length) : (∀ o k tx bs, sS[i]? = some (o, k, tx, bs) → vk_R o k tx (eO E (1000000 + i)) U) ∧ va_O "java/lang/String" (eO E (1000000 + i)) (eA E) U H ∧ va_OF "java/lang/String" "coder" "B" (.int 0) (eO E (1000000 + i)) (eA E) U H ∧ va_OF "java/lang/String" "value" "[B" (.ref (eO E (2000000 + i))) (eO E (1000000 + i)) (eA E) U H ∧ va_T .byte (eO E (2000000 + i)) (sBy i).length (fun j => .int ((sBy i).getD j 0)) (eA E) U H := by
  have h := hT.2.1 i hi
  unfold sOk at h
  have e : sBy i = (sS[i]).2.2.2 := by
    unfold sBy
    rw [List.getD_eq_getElem?_getD, List.getElem?_eq_getElem hi]
    rfl
  rw [List.getElem?_eq_getElem hi] at h ⊢
  obtain ⟨h1, h2, h3, h4, h5⟩ := h
  rw [e]
  exact ⟨fun o k tx bs z => by
    have z2 : sS.get ⟨i, hi⟩ = (o, k, tx, bs) := Option.some.inj z
    rw [z2] at h1
    exact h1, h2, h3, h4, h5⟩
theorem js_ldcS {j index : Nat} {tx : String} {bs : List Int32} (hd : decode X.2.2.1 pc = .ok (.ldc index, 2)) (hw : sS[j]? = some (X.1, index, tx, bs)) (h : Jj sc d mc ms X (pc + 2) L (.ref (1000000 + j) :: S) m c s Q) : Jj sc d mc ms X pc L S m c s Q := by
  intro E p e R st mid args below meth cd H locs ls hC hP hS hl
  obtain ⟨hx, hb, hml, hrt, hown, hts, hlk, hnm, hT, hB, hR, hsc⟩ := id hC
  have hZ := (sOk_at hT (List.getElem?_eq_some_iff.mp hw).1).1 _ _ _ _ hw
  have hk := h E p e R st mid args below meth cd H locs ls hC hP hS hl
  have er : ro E (1000000 + j) = eO E (1000000 + j) := if_neg (by omega)
  have e9 : (Value.ref (1000000 + j) :: S).map (rv E) = .ref (eO E (1000000 + j)) :: S.map (rv E) := by rw [List.map_cons, ← er]; rfl
  rw [e9] at hk
  exact va_ldcS hx hb hown hZ hd hk
theorem js_ldcwS {j index : Nat} {tx : String} {bs : List Int32} (hd : decode X.2.2.1 pc = .ok (.ldc_w index, 3)) (hw : sS[j]? = some (X.1, index, tx, bs)) (h : Jj sc d mc ms X (pc + 3) L (.ref (1000000 + j) :: S) m c s Q) : Jj sc d mc ms X pc L S m c s Q := by
  intro E p e R st mid args below meth cd H locs ls hC hP hS hl
  obtain ⟨hx, hb, hml, hrt, hown, hts, hlk, hnm, hT, hB, hR, hsc⟩ := id hC
  have hZ := (sOk_at hT (List.getElem?_eq_some_iff.mp hw).1).1 _ _ _ _ hw
  have hk := h E p e R st mid args below meth cd H locs ls hC hP hS hl
  have er : ro E (1000000 + j) = eO E (1000000 + j) := if_neg (by omega)
  have e9 : (Value.ref (1000000 + j) :: S).map (rv E) = .ref (eO E (1000000 + j)) :: S.map (rv E) := by rw [List.map_cons, ← er]; rfl
  rw [e9] at hk
  intro T hTT X9
  obtain ⟨t, a1, b1⟩ := hk T hTT X9
  exact ⟨t, X9.ldcStringW hx hown (text := tx) (a := eO E (1000000 + j)) hZ.1 hZ.2 (g := F0 mid pc ls (S.map (rv E))) rfl (by rw [hb]; exact hd) t a1, b1⟩
theorem js_ldcI {index : Nat} {v : Int32} (hd : decode X.2.2.1 pc = .ok (.ldc index, 2)) (hw : Cond.constant X.1 index v ∈ BIG) (h : Jj sc d mc ms X (pc + 2) L (.int v :: S) m c s Q) : Jj sc d mc ms X pc L S m c s Q := by
  intro E p e R st mid args below meth cd H locs ls hC hP hS hl
  obtain ⟨hx, hb, hml, hrt, hown, hts, hlk, hnm, hT, hB, hR, hsc⟩ := id hC
  exact lv_ldc hx hb hown (hts _ hw) hd (h E p e R st mid args below meth cd H locs ls hC hP hS hl)
theorem js_ldcwI {index : Nat} {v : Int32} (hd : decode X.2.2.1 pc = .ok (.ldc_w index, 3)) (hw : Cond.constant X.1 index v ∈ BIG) (h : Jj sc d mc ms X (pc + 3) L (.int v :: S) m c s Q) : Jj sc d mc ms X pc L S m c s Q := by
  intro E p e R st mid args below meth cd H locs ls hC hP hS hl
  obtain ⟨hx, hb, hml, hrt, hown, hts, hlk, hnm, hT, hB, hR, hsc⟩ := id hC
  exact lv_ldcw hx hb hown (hts _ hw) hd (h E p e R st mid args below meth cd H locs ls hC hP hS hl)
theorem js_ldc2 {index : Nat} {v : Int64} (hd : decode X.2.2.1 pc = .ok (.ldc2_w index, 3)) (hw : Cond.constantLong X.1 index v ∈ BIG) (h : Jj sc d mc ms X (pc + 3) L (.long v :: S) m c s Q) : Jj sc d mc ms X pc L S m c s Q := by
  intro E p e R st mid args below meth cd H locs ls hC hP hS hl
  obtain ⟨hx, hb, hml, hrt, hown, hts, hlk, hnm, hT, hB, hR, hsc⟩ := id hC
  exact lv_ldc2 hx hb hown (hts _ hw) hd (h E p e R st mid args below meth cd H locs ls hC hP hS hl)
theorem js_strV {i index : Nat} (hd : decode X.2.2.1 pc = .ok (.getfield index, 3)) (hi : i < sS.length) (hw : Cond.fieldLink X.1 index "java/lang/String" "value" "[B" ∈ BIG) (h : Jj sc d mc ms X (pc + 3) L (.ref (2000000 + i) :: S) m c s Q) : Jj sc d mc ms X pc L (.ref (1000000 + i) :: S) m c s Q := by
  intro E p e R st mid args below meth cd H locs ls hC hP hS hl
  obtain ⟨hx, hb, hml, hrt, hown, hts, hlk, hnm, hT, hB, hR, hsc⟩ := id hC
  have hZ := (sOk_at hT hi).2.2.2.1
  have hk := h E p e R st mid args below meth cd H locs ls hC hP hS hl
  have er : ro E (2000000 + i) = eO E (2000000 + i) := if_neg (by omega)
  have e9 : (Value.ref (2000000 + i) :: S).map (rv E) = .ref (eO E (2000000 + i)) :: S.map (rv E) := by rw [List.map_cons, ← er]; rfl
  rw [e9] at hk
  have er : ro E (1000000 + i) = eO E (1000000 + i) := if_neg (by omega)
  have e9 : (Value.ref (1000000 + i) :: S).map (rv E) = .ref (eO E (1000000 + i)) :: S.map (rv E) := by rw [List.map_cons, ← er]; rfl
  rw [e9]
  exact vk_getf hx hb hZ hS hown (hts _ hw) (fun _ h => h) hd hk
theorem js_strC {i index : Nat} (hd : decode X.2.2.1 pc = .ok (.getfield index, 3)) (hi : i < sS.length) (hw : Cond.fieldLink X.1 index "java/lang/String" "coder" "B" ∈ BIG) (h : Jj sc d mc ms X (pc + 3) L (.int 0 :: S) m c s Q) : Jj sc d mc ms X pc L (.ref (1000000 + i) :: S) m c s Q := by
  intro E p e R st mid args below meth cd H locs ls hC hP hS hl
  obtain ⟨hx, hb, hml, hrt, hown, hts, hlk, hnm, hT, hB, hR, hsc⟩ := id hC
  have hZ := (sOk_at hT hi).2.2.1
  have er : ro E (1000000 + i) = eO E (1000000 + i) := if_neg (by omega)
  have e9 : (Value.ref (1000000 + i) :: S).map (rv E) = .ref (eO E (1000000 + i)) :: S.map (rv E) := by rw [List.map_cons, ← er]; rfl
  rw [e9]
  exact vk_getf hx hb hZ hS hown (hts _ hw) (fun _ h => h) hd (h E p e R st mid args below meth cd H locs ls hC hP hS hl)
theorem js_strLen {i : Nat} (hd : decode X.2.2.1 pc = .ok (.arraylength, 1)) (hi : i < sS.length) (h : Jj sc d mc ms X (pc + 1) L (.int (nI (sBy i).length) :: S) m c s Q) : Jj sc d mc ms X pc L (.ref (2000000 + i) :: S) m c s Q := by
  intro E p e R st mid args below meth cd H locs ls hC hP hS hl
  obtain ⟨hx, hb, hml, hrt, hown, hts, hlk, hnm, hT, hB, hR, hsc⟩ := id hC
  have er : ro E (2000000 + i) = eO E (2000000 + i) := if_neg (by omega)
  have e9 : (Value.ref (2000000 + i) :: S).map (rv E) = .ref (eO E (2000000 + i)) :: S.map (rv E) := by rw [List.map_cons, ← er]; rfl
  rw [e9]
  exact va_tlen hx hb (sOk_at hT hi).2.2.2.2 hS rfl hd (h E p e R st mid args below meth cd H locs ls hC hP hS hl)
theorem js_strLd {i : Nat} {x : Int32} (hd : decode X.2.2.1 pc = .ok (.baload, 1)) (hi : i < sS.length) (hin : vp_in x (sBy i).length) (h : Jj sc d mc ms X (pc + 1) L (.int ((sBy i).getD x.toNatClampNeg 0) :: S) m c s Q) : Jj sc d mc ms X pc L (.int x :: .ref (2000000 + i) :: S) m c s Q := by
  intro E p e R st mid args below meth cd H locs ls hC hP hS hl
  obtain ⟨hx, hb, hml, hrt, hown, hts, hlk, hnm, hT, hB, hR, hsc⟩ := id hC
  have er : ro E (2000000 + i) = eO E (2000000 + i) := if_neg (by omega)
  have e9 : (Value.int x :: Value.ref (2000000 + i) :: S).map (rv E) = .int x :: .ref (eO E (2000000 + i)) :: S.map (rv E) := by rw [List.map_cons, List.map_cons, ← er]; rfl
  rw [e9]
  exact va_tb hx hb (sOk_at hT hi).2.2.2.2 hS hin rfl hd (h E p e R st mid args below meth cd H locs ls hC hP hS hl)
/-! returns -/
theorem js_iret {x : Int32} (hd : decode X.2.2.1 pc = .ok (.ireturn, 1)) (hr : zRet X.2.2.2.2.1 x) (hc : c ≤ mc ∧ s ≤ ms) (h : Q (some (.int x)) m) : Jj sc d mc ms X pc L [.int x] m c s Q := by
  intro E p e R st mid args below meth cd H locs ls hC hP hS hl
  obtain ⟨hx, hb, hml, hrt, hown, hts, hlk, hnm, hT, hB, hR, hsc⟩ := id hC
  refine W.widen hc.1 hc.2 ?_
  have hq : ∀ t : State, t.heap = H → st.WarmedH t.vm → QC E Q args st (.returned (some (.int x))) t := fun t ht hW => ⟨⟨some (.int x), m, rfl, h, by rw [ht]; exact Hp_moved hW.alike hP⟩, hS.F ht⟩
  unfold zRet at hr
  split at hr
  · rename_i hz
    exact W.iret hx hb (hrt.trans hz) hq hS.2.2 hd hlk
  · rename_i hz
    exact W.zret (ty := .boolean) hx hb (hrt.trans hz) (by rcases hr with rfl | rfl <;> rfl) hq hS.2.2 hd hlk
  · rename_i hz
    exact W.zret (ty := .byte) hx hb (hrt.trans hz) hr hq hS.2.2 hd hlk
  · rename_i hz
    exact W.zret (ty := .char) hx hb (hrt.trans hz) hr hq hS.2.2 hd hlk
  · exact hr.elim
theorem js_lret {x : Int64} (hd : decode X.2.2.1 pc = .ok (.lreturn, 1)) (hr : X.2.2.2.2.1 = some .long) (hc : c ≤ mc ∧ s ≤ ms) (h : Q (some (.long x)) m) : Jj sc d mc ms X pc L [.long x] m c s Q := by
  intro E p e R st mid args below meth cd H locs ls hC hP hS hl
  obtain ⟨hx, hb, hml, hrt, hown, hts, hlk, hnm, hT, hB, hR, hsc⟩ := id hC
  refine W.widen hc.1 hc.2 ?_
  exact W.lret hx hb (hrt.trans hr) (fun t ht hW => ⟨⟨some (.long x), m, rfl, h, by rw [ht]; exact Hp_moved hW.alike hP⟩, hS.F ht⟩) hS.2.2 hd hlk
theorem js_aret {a : Nat} {cn : String} (hd : decode X.2.2.1 pc = .ok (.areturn, 1)) (hr : X.2.2.2.2.1 = some (.object cn)) (hc : c ≤ mc ∧ s ≤ ms) (h : Q (some (.ref a)) m) : Jj sc d mc ms X pc L [.ref a] m c s Q := by
  intro E p e R st mid args below meth cd H locs ls hC hP hS hl
  obtain ⟨hx, hb, hml, hrt, hown, hts, hlk, hnm, hT, hB, hR, hsc⟩ := id hC
  refine W.widen hc.1 hc.2 ?_
  exact W.aret hx hb (hrt.trans hr) (Or.inl ⟨_, rfl⟩) (Or.inr ⟨_, rfl⟩) (fun t ht hW => ⟨⟨some (.ref a), m, rfl, h, by rw [ht]; exact Hp_moved hW.alike hP⟩, hS.F ht⟩) hS.2.2 hd hlk
theorem js_vret (hd : decode X.2.2.1 pc = .ok (.return_, 1)) (hr : X.2.2.2.2.1 = none) (hc : c ≤ mc ∧ s ≤ ms) (h : Q none m) : Jj sc d mc ms X pc L [] m c s Q := by
  intro E p e R st mid args below meth cd H locs ls hC hP hS hl
  obtain ⟨hx, hb, hml, hrt, hown, hts, hlk, hnm, hT, hB, hR, hsc⟩ := id hC
  refine W.widen hc.1 hc.2 ?_
  exact W.vret hx hb (hrt.trans hr) (fun t ht hW => ⟨⟨none, m, rfl, h, by rw [ht]; exact Hp_moved hW.alike hP⟩, hS.F ht⟩) hS.2.2 hd hlk
end Z6
