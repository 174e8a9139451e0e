/-! lists of locals, stacks -/
theorem gd_lt {α : Type} {L : List (Option α)} {k : Nat} {v : α} (h : L.getD k none = some v) : k < L.length := by
  rcases Nat.lt_or_ge k L.length with h1 | h1
  · exact h1
  · rw [List.getD_eq_getElem?_getD, List.getElem?_eq_none h1] at h
    cases h
theorem zlv_in {E : En} {L : List (Option Value)} {k : Nat} {v : Value} (h : L.getD k none = some v) : (k, rv E v) ∈ zlv E L := by
  unfold zlv
  exact List.mem_filterMap.mpr ⟨k, List.mem_range.mpr (gd_lt h), by rw [h]; rfl⟩
theorem zlv_of {E : En} {L : List (Option Value)} {q : Nat × Value} (h : q ∈ zlv E L) : ∃ v, L.getD q.1 none = some v ∧ q.2 = rv E v := by
  unfold zlv at h
  obtain ⟨k, -, hk⟩ := List.mem_filterMap.mp h
  cases hv : L.getD k none with
  | none => rw [hv] at hk; cases hk
  | some v =>
    rw [hv] at hk
    cases hk
    exact ⟨v, hv, rfl⟩
theorem lv_mono {ls : Array Slot} {n : Nat} {l l' : List (Nat × Value)} (h : lv_has ls n l) (hs : ∀ q ∈ l', q ∈ l) : lv_has ls n l' := ⟨h.1, h.2.1, fun q hq => h.2.2 q (hs q hq)⟩
theorem zl_at {E : En} {ls : Array Slot} {n : Nat} {L : List (Option Value)} {k : Nat} {v : Value} (h : lv_has ls n (zlv E L)) (hk : L.getD k none = some v) : ls[k]? = some (.val (rv E v)) := h.2.2 _ (zlv_in hk)
theorem rv_cat (E : En) (v : Value) : (rv E v).category = v.category := by cases v <;> rfl
theorem clr_of {L : List (Option Value)} {i k : Nat} {u : Value} (h : (clr L i).getD k none = some u) : L.getD k none = some u ∧ ¬ (k + 1 = i ∧ u.category = 2) := by
  cases i with
  | zero => exact ⟨h, fun z => by omega⟩
  | succ j =>
    unfold clr at h
    dsimp only at h
    cases hj : L.getD j none with
    | none =>
      rw [hj] at h
      refine ⟨h, fun z => ?_⟩
      have e : k = j := by omega
      subst e
      dsimp only at h
      rw [hj] at h
      cases h
    | some v =>
      rw [hj] at h
      dsimp only at h
      by_cases hc : v.category = 2
      · rw [if_pos hc] at h
        by_cases hk : k = j
        · subst hk
          have hl := gd_lt hj
          rw [List.getD_eq_getElem?_getD, List.getElem?_set_self hl] at h
          cases h
        · rw [List.getD_eq_getElem?_getD, List.getElem?_set_ne (Ne.symm hk), ← List.getD_eq_getElem?_getD] at h
          exact ⟨h, fun z => hk (by omega)⟩
      · rw [if_neg hc] at h
        refine ⟨h, fun z => ?_⟩
        have e : k = j := by omega
        subst e
        rw [hj] at h
        cases h
        exact hc z.2
theorem st1_sub {E : En} {L : List (Option Value)} {i : Nat} {v : Value} : ∀ q ∈ zlv E (st1 L i v), q ∈ ((i, rv E v) :: (zlv E L).filter (fun q => !(q.1 == i) && !(q.1 + 1 == i && q.2.category == 2))) := by
  intro q hq
  obtain ⟨u, hu, hw⟩ := zlv_of hq
  obtain ⟨k, w⟩ := q
  dsimp only at hu hw
  subst hw
  unfold st1 at hu
  by_cases hk : k = i
  · subst hk
    have hl := gd_lt hu
    rw [List.length_set] at hl
    rw [List.getD_eq_getElem?_getD, List.getElem?_set_self hl] at hu
    cases hu
    exact List.mem_cons_self
  · rw [List.getD_eq_getElem?_getD, List.getElem?_set_ne (Ne.symm hk), ← List.getD_eq_getElem?_getD] at hu
    obtain ⟨h1, h2⟩ := clr_of hu
    refine List.mem_cons_of_mem _ (List.mem_filter.mpr ⟨zlv_in h1, ?_⟩)
    simp only [Bool.and_eq_true, Bool.not_eq_true', beq_eq_false_iff_ne, ne_eq, hk, not_false_eq_true, true_and, Bool.and_eq_false_imp, beq_iff_eq, rv_cat]
    intro z z2
    exact h2 ⟨z, z2⟩
theorem st2_sub {E : En} {L : List (Option Value)} {i : Nat} {v : Value} : ∀ q ∈ zlv E (st2 L i v), q ∈ ((i, rv E v) :: (zlv E L).filter (fun q => !(q.1 == i) && (!(q.1 == i + 1) && !(q.1 + 1 == i && q.2.category == 2)))) := by
  intro q hq
  obtain ⟨u, hu, hw⟩ := zlv_of hq
  obtain ⟨k, w⟩ := q
  dsimp only at hu hw
  subst hw
  unfold st2 at hu
  by_cases hk1 : k = i + 1
  · subst hk1
    have hl := gd_lt hu
    rw [List.length_set] at hl
    rw [List.getD_eq_getElem?_getD, List.getElem?_set_self hl] at hu
    cases hu
  rw [List.getD_eq_getElem?_getD, List.getElem?_set_ne (Ne.symm hk1), ← List.getD_eq_getElem?_getD] at hu
  by_cases hk : k = i
  · subst hk
    have hl := gd_lt hu
    rw [List.length_set] at hl
    rw [List.getD_eq_getElem?_getD, List.getElem?_set_self hl] at hu
    cases hu
    exact List.mem_cons_self
  · rw [List.getD_eq_getElem?_getD, List.getElem?_set_ne (Ne.symm hk), ← List.getD_eq_getElem?_getD] at hu
    obtain ⟨h1, h2⟩ := clr_of hu
    refine List.mem_cons_of_mem _ (List.mem_filter.mpr ⟨zlv_in h1, ?_⟩)
    simp only [Bool.and_eq_true, Bool.not_eq_true', beq_eq_false_iff_ne, ne_eq, hk, hk1, not_false_eq_true, true_and, Bool.and_eq_false_imp, beq_iff_eq, rv_cat]
    intro z z2
    exact h2 ⟨z, z2⟩
theorem pI_e {S : List Value} {f : Int32 → List Value → Prop} (h : pI S f) : ∃ x r, S = .int x :: r ∧ f x r := by
  unfold pI at h
  split at h
  · exact ⟨_, _, rfl, h⟩
  · exact h.elim
theorem pJ_e {S : List Value} {f : Int64 → List Value → Prop} (h : pJ S f) : ∃ x r, S = .long x :: r ∧ f x r := by
  unfold pJ at h
  split at h
  · exact ⟨_, _, rfl, h⟩
  · exact h.elim
theorem pA_e {S : List Value} {f : Nat → List Value → Prop} (h : pA S f) : ∃ x r, S = .ref x :: r ∧ f x r := by
  unfold pA at h
  split at h
  · exact ⟨_, _, rfl, h⟩
  · exact h.elim
theorem gI_e {L : List (Option Value)} {k : Nat} {f : Int32 → Prop} (h : gI L k f) : ∃ x, L.getD k none = some (.int x) ∧ f x := by
  unfold gI at h
  split at h
  · exact ⟨_, by assumption, h⟩
  · exact h.elim
theorem gJ_e {L : List (Option Value)} {k : Nat} {f : Int64 → Prop} (h : gJ L k f) : ∃ x, L.getD k none = some (.long x) ∧ f x := by
  unfold gJ at h
  split at h
  · exact ⟨_, by assumption, h⟩
  · exact h.elim
theorem gA_e {L : List (Option Value)} {k : Nat} {f : Nat → Prop} (h : gA L k f) : ∃ x, L.getD k none = some (.ref x) ∧ f x := by
  unfold gA at h
  split at h
  · exact ⟨_, by assumption, h⟩
  · exact h.elim
section Z4
variable {sc : Nat × (Nat → Int32)} {d mc ms : Nat} {X : MT} {pc q : Nat} {L : List (Option Value)} {S : List Value} {m : Mm} {c s : Nat} {Q : Option Value → Mm → Prop}

theorem js_iconst {n : Int} {v : Int32} (hd : decode X.2.2.1 pc = .ok (.iconst n, 1)) (hv : Int32.ofInt n = v) (h : Jj sc d mc ms X (pc + 1) L (.int v :: S) m c s Q) : Jj sc d mc ms X pc L S m c s Q := by
  intro E p e R st mid args below meth cd H locs ls hC hP hS hl
  have hx := hC.1
  have hb := hC.2.1
  exact lv_iconst hx hb hd hv (h E p e R st mid args below meth cd H locs ls hC hP hS hl)
theorem js_bipush {n : Int} {v : Int32} (hd : decode X.2.2.1 pc = .ok (.bipush n, 2)) (hv : (Int8.ofInt n).toInt32 = v) (h : Jj sc d mc ms X (pc + 2) L (.int v :: S) m c s Q) : Jj sc d mc ms X pc L S m c s Q := by
  intro E p e R st mid args below meth cd H locs ls hC hP hS hl
  have hx := hC.1
  have hb := hC.2.1
  exact lv_bipush hx hb hd hv (h E p e R st mid args below meth cd H locs ls hC hP hS hl)
theorem js_sipush {n : Int} {v : Int32} (hd : decode X.2.2.1 pc = .ok (.sipush n, 3)) (hv : (Int16.ofInt n).toInt32 = v) (h : Jj sc d mc ms X (pc + 3) L (.int v :: S) m c s Q) : Jj sc d mc ms X pc L S m c s Q := by
  intro E p e R st mid args below meth cd H locs ls hC hP hS hl
  have hx := hC.1
  have hb := hC.2.1
  exact lv_sipush hx hb hd hv (h E p e R st mid args below meth cd H locs ls hC hP hS hl)
theorem js_lconst {n : Fin 2} {v : Int64} (hd : decode X.2.2.1 pc = .ok (.lconst n, 1)) (hv : Int64.ofNat (n : Nat) = v) (h : Jj sc d mc ms X (pc + 1) L (.long v :: S) m c s Q) : Jj sc d mc ms X pc L S m c s Q := by
  intro E p e R st mid args below meth cd H locs ls hC hP hS hl
  have hx := hC.1
  have hb := hC.2.1
  exact lv_lconst hx hb hd hv (h E p e R st mid args below meth cd H locs ls hC hP hS hl)
theorem js_iload_n {k : Fin 4} (hd : decode X.2.2.1 pc = .ok (.iload_n k, 1)) (h : gI L k.val fun x => Jj sc d mc ms X (pc + 1) L (.int x :: S) m c s Q) : Jj sc d mc ms X pc L S m c s Q := by
  obtain ⟨x, hk, h⟩ := gI_e h
  intro E p e R st mid args below meth cd H locs ls hC hP hS hl
  have hx := hC.1
  have hb := hC.2.1
  exact lv_iload_n hx hb hd rfl (zl_at hl hk) (h E p e R st mid args below meth cd H locs ls hC hP hS hl)
theorem js_iload {k : Nat} (hd : decode X.2.2.1 pc = .ok (.iload k, 2)) (h : gI L k fun x => Jj sc d mc ms X (pc + 2) L (.int x :: S) m c s Q) : Jj sc d mc ms X pc L S m c s Q := by
  obtain ⟨x, hk, h⟩ := gI_e h
  intro E p e R st mid args below meth cd H locs ls hC hP hS hl
  have hx := hC.1
  have hb := hC.2.1
  exact lv_iload hx hb hd (zl_at hl hk) (h E p e R st mid args below meth cd H locs ls hC hP hS hl)
theorem js_lload_n {k : Fin 4} (hd : decode X.2.2.1 pc = .ok (.lload_n k, 1)) (h : gJ L k.val fun x => Jj sc d mc ms X (pc + 1) L (.long x :: S) m c s Q) : Jj sc d mc ms X pc L S m c s Q := by
  obtain ⟨x, hk, h⟩ := gJ_e h
  intro E p e R st mid args below meth cd H locs ls hC hP hS hl
  have hx := hC.1
  have hb := hC.2.1
  exact lv_lload_n hx hb hd rfl (zl_at hl hk) (h E p e R st mid args below meth cd H locs ls hC hP hS hl)
theorem js_lload {k : Nat} (hd : decode X.2.2.1 pc = .ok (.lload k, 2)) (h : gJ L k fun x => Jj sc d mc ms X (pc + 2) L (.long x :: S) m c s Q) : Jj sc d mc ms X pc L S m c s Q := by
  obtain ⟨x, hk, h⟩ := gJ_e h
  intro E p e R st mid args below meth cd H locs ls hC hP hS hl
  have hx := hC.1
  have hb := hC.2.1
  exact lv_lload hx hb hd (zl_at hl hk) (h E p e R st mid args below meth cd H locs ls hC hP hS hl)
theorem js_aload_n {k : Fin 4} (hd : decode X.2.2.1 pc = .ok (.aload_n k, 1)) (h : gA L k.val fun x => Jj sc d mc ms X (pc + 1) L (.ref x :: S) m c s Q) : Jj sc d mc ms X pc L S m c s Q := by
  obtain ⟨x, hk, h⟩ := gA_e h
  intro E p e R st mid args below meth cd H locs ls hC hP hS hl
  have hx := hC.1
  have hb := hC.2.1
  exact lv_aload_n hx hb hd rfl (zl_at hl hk) (h E p e R st mid args below meth cd H locs ls hC hP hS hl)
theorem js_aload {k : Nat} (hd : decode X.2.2.1 pc = .ok (.aload k, 2)) (h : gA L k fun x => Jj sc d mc ms X (pc + 2) L (.ref x :: S) m c s Q) : Jj sc d mc ms X pc L S m c s Q := by
  obtain ⟨x, hk, h⟩ := gA_e h
  intro E p e R st mid args below meth cd H locs ls hC hP hS hl
  have hx := hC.1
  have hb := hC.2.1
  exact lv_aload hx hb hd (zl_at hl hk) (h E p e R st mid args below meth cd H locs ls hC hP hS hl)
theorem js_istore_n {k : Fin 4} (hd : decode X.2.2.1 pc = .ok (.istore_n k, 1)) (hk : k.val < X.2.2.2.1) (h : pI S fun x r => Jj sc d mc ms X (pc + 1) (st1 L k.val (.int x)) r m c s Q) : Jj sc d mc ms X pc L S m c s Q := by
  obtain ⟨x, r, rfl, h⟩ := pI_e h
  intro E p e R st mid args below meth cd H locs ls hC hP hS hl
  have hx := hC.1
  have hb := hC.2.1
  exact lv_istore_n hx hb hd rfl hl hk rfl (fun ls hl => h E p e R st mid args below meth cd H locs ls hC hP hS (lv_mono hl st1_sub))
theorem js_istore {k : Nat} (hd : decode X.2.2.1 pc = .ok (.istore k, 2)) (hk : k < X.2.2.2.1) (h : pI S fun x r => Jj sc d mc ms X (pc + 2) (st1 L k (.int x)) r m c s Q) : Jj sc d mc ms X pc L S m c s Q := by
  obtain ⟨x, r, rfl, h⟩ := pI_e h
  intro E p e R st mid args below meth cd H locs ls hC hP hS hl
  have hx := hC.1
  have hb := hC.2.1
  exact lv_istore hx hb hd hl hk rfl (fun ls hl => h E p e R st mid args below meth cd H locs ls hC hP hS (lv_mono hl st1_sub))
theorem js_lstore_n {k : Fin 4} (hd : decode X.2.2.1 pc = .ok (.lstore_n k, 1)) (hk : k.val + 1 < X.2.2.2.1) (h : pJ S fun x r => Jj sc d mc ms X (pc + 1) (st2 L k.val (.long x)) r m c s Q) : Jj sc d mc ms X pc L S m c s Q := by
  obtain ⟨x, r, rfl, h⟩ := pJ_e h
  intro E p e R st mid args below meth cd H locs ls hC hP hS hl
  have hx := hC.1
  have hb := hC.2.1
  exact lv_lstore_n hx hb hd rfl hl hk rfl (fun ls hl => h E p e R st mid args below meth cd H locs ls hC hP hS (lv_mono hl st2_sub))
theorem js_lstore {k : Nat} (hd : decode X.2.2.1 pc = .ok (.lstore k, 2)) (hk : k + 1 < X.2.2.2.1) (h : pJ S fun x r => Jj sc d mc ms X (pc + 2) (st2 L k (.long x)) r m c s Q) : Jj sc d mc ms X pc L S m c s Q := by
  obtain ⟨x, r, rfl, h⟩ := pJ_e h
  intro E p e R st mid args below meth cd H locs ls hC hP hS hl
  have hx := hC.1
  have hb := hC.2.1
  exact lv_lstore hx hb hd hl hk rfl (fun ls hl => h E p e R st mid args below meth cd H locs ls hC hP hS (lv_mono hl st2_sub))
theorem js_astore_n {k : Fin 4} (hd : decode X.2.2.1 pc = .ok (.astore_n k, 1)) (hk : k.val < X.2.2.2.1) (h : pA S fun x r => Jj sc d mc ms X (pc + 1) (st1 L k.val (.ref x)) r m c s Q) : Jj sc d mc ms X pc L S m c s Q := by
  obtain ⟨x, r, rfl, h⟩ := pA_e h
  intro E p e R st mid args below meth cd H locs ls hC hP hS hl
  have hx := hC.1
  have hb := hC.2.1
  exact lv_astore_n hx hb hd rfl hl hk rfl (fun ls hl => h E p e R st mid args below meth cd H locs ls hC hP hS (lv_mono hl st1_sub))
theorem js_astore {k : Nat} (hd : decode X.2.2.1 pc = .ok (.astore k, 2)) (hk : k < X.2.2.2.1) (h : pA S fun x r => Jj sc d mc ms X (pc + 2) (st1 L k (.ref x)) r m c s Q) : Jj sc d mc ms X pc L S m c s Q := by
  obtain ⟨x, r, rfl, h⟩ := pA_e h
  intro E p e R st mid args below meth cd H locs ls hC hP hS hl
  have hx := hC.1
  have hb := hC.2.1
  exact lv_astore hx hb hd hl hk rfl (fun ls hl => h E p e R st mid args below meth cd H locs ls hC hP hS (lv_mono hl st1_sub))
theorem js_iinc {k : Nat} {n : Int} {y : Int32} (hd : decode X.2.2.1 pc = .ok (.iinc k n, 3)) (hk : k < X.2.2.2.1) (hy : Int32.ofInt n = y) (h : gI L k fun x => Jj sc d mc ms X (pc + 3) (st1 L k (.int (x + y))) S m c s Q) : Jj sc d mc ms X pc L S m c s Q := by
  obtain ⟨x, hg, h⟩ := gI_e h
  intro E p e R st mid args below meth cd H locs ls hC hP hS hl
  have hx := hC.1
  have hb := hC.2.1
  obtain ⟨j, hj⟩ := List.getElem?_of_mem (zlv_in (E := E) hg)
  exact lv_iinc (v := x + y) hx hb hd hl hj (by rw [hy]) hk rfl (fun ls hl => h E p e R st mid args below meth cd H locs ls hC hP hS (lv_mono hl st1_sub))
theorem js_iadd (hd : decode X.2.2.1 pc = .ok (.iadd, 1)) (h : pI S fun y r => pI r fun x r => Jj sc d mc ms X (pc + 1) L (.int (x + y) :: r) m c s Q) : Jj sc d mc ms X pc L S m c s Q := by
  obtain ⟨y, r0, rfl, h0⟩ := pI_e h
  clear h
  obtain ⟨x, r, rfl, h⟩ := pI_e h0
  intro E p e R st mid args below meth cd H locs ls hC hP hS hl
  have hx := hC.1
  have hb := hC.2.1
  exact lv_iadd hx hb hd (h E p e R st mid args below meth cd H locs ls hC hP hS hl)
theorem js_isub (hd : decode X.2.2.1 pc = .ok (.isub, 1)) (h : pI S fun y r => pI r fun x r => Jj sc d mc ms X (pc + 1) L (.int (x - y) :: r) m c s Q) : Jj sc d mc ms X pc L S m c s Q := by
  obtain ⟨y, r0, rfl, h0⟩ := pI_e h
  clear h
  obtain ⟨x, r, rfl, h⟩ := pI_e h0
  intro E p e R st mid args below meth cd H locs ls hC hP hS hl
  have hx := hC.1
  have hb := hC.2.1
  exact lv_isub hx hb hd (h E p e R st mid args below meth cd H locs ls hC hP hS hl)
theorem js_imul (hd : decode X.2.2.1 pc = .ok (.imul, 1)) (h : pI S fun y r => pI r fun x r => Jj sc d mc ms X (pc + 1) L (.int (x * y) :: r) m c s Q) : Jj sc d mc ms X pc L S m c s Q := by
  obtain ⟨y, r0, rfl, h0⟩ := pI_e h
  clear h
  obtain ⟨x, r, rfl, h⟩ := pI_e h0
  intro E p e R st mid args below meth cd H locs ls hC hP hS hl
  have hx := hC.1
  have hb := hC.2.1
  exact lv_imul hx hb hd (h E p e R st mid args below meth cd H locs ls hC hP hS hl)
theorem js_iand (hd : decode X.2.2.1 pc = .ok (.iand, 1)) (h : pI S fun y r => pI r fun x r => Jj sc d mc ms X (pc + 1) L (.int (x &&& y) :: r) m c s Q) : Jj sc d mc ms X pc L S m c s Q := by
  obtain ⟨y, r0, rfl, h0⟩ := pI_e h
  clear h
  obtain ⟨x, r, rfl, h⟩ := pI_e h0
  intro E p e R st mid args below meth cd H locs ls hC hP hS hl
  have hx := hC.1
  have hb := hC.2.1
  exact lv_iand hx hb hd (h E p e R st mid args below meth cd H locs ls hC hP hS hl)
theorem js_ior (hd : decode X.2.2.1 pc = .ok (.ior, 1)) (h : pI S fun y r => pI r fun x r => Jj sc d mc ms X (pc + 1) L (.int (x ||| y) :: r) m c s Q) : Jj sc d mc ms X pc L S m c s Q := by
  obtain ⟨y, r0, rfl, h0⟩ := pI_e h
  clear h
  obtain ⟨x, r, rfl, h⟩ := pI_e h0
  intro E p e R st mid args below meth cd H locs ls hC hP hS hl
  have hx := hC.1
  have hb := hC.2.1
  exact lv_ior hx hb hd (h E p e R st mid args below meth cd H locs ls hC hP hS hl)
theorem js_ixor (hd : decode X.2.2.1 pc = .ok (.ixor, 1)) (h : pI S fun y r => pI r fun x r => Jj sc d mc ms X (pc + 1) L (.int (x ^^^ y) :: r) m c s Q) : Jj sc d mc ms X pc L S m c s Q := by
  obtain ⟨y, r0, rfl, h0⟩ := pI_e h
  clear h
  obtain ⟨x, r, rfl, h⟩ := pI_e h0
  intro E p e R st mid args below meth cd H locs ls hC hP hS hl
  have hx := hC.1
  have hb := hC.2.1
  exact lv_ixor hx hb hd (h E p e R st mid args below meth cd H locs ls hC hP hS hl)
theorem js_ishl (hd : decode X.2.2.1 pc = .ok (.ishl, 1)) (h : pI S fun y r => pI r fun x r => Jj sc d mc ms X (pc + 1) L (.int (x <<< (y &&& 31)) :: r) m c s Q) : Jj sc d mc ms X pc L S m c s Q := by
  obtain ⟨y, r0, rfl, h0⟩ := pI_e h
  clear h
  obtain ⟨x, r, rfl, h⟩ := pI_e h0
  intro E p e R st mid args below meth cd H locs ls hC hP hS hl
  have hx := hC.1
  have hb := hC.2.1
  exact lv_ishl hx hb hd (h E p e R st mid args below meth cd H locs ls hC hP hS hl)
theorem js_ishr (hd : decode X.2.2.1 pc = .ok (.ishr, 1)) (h : pI S fun y r => pI r fun x r => Jj sc d mc ms X (pc + 1) L (.int (x >>> (y &&& 31)) :: r) m c s Q) : Jj sc d mc ms X pc L S m c s Q := by
  obtain ⟨y, r0, rfl, h0⟩ := pI_e h
  clear h
  obtain ⟨x, r, rfl, h⟩ := pI_e h0
  intro E p e R st mid args below meth cd H locs ls hC hP hS hl
  have hx := hC.1
  have hb := hC.2.1
  exact lv_ishr hx hb hd (h E p e R st mid args below meth cd H locs ls hC hP hS hl)
theorem js_iushr (hd : decode X.2.2.1 pc = .ok (.iushr, 1)) (h : pI S fun y r => pI r fun x r => Jj sc d mc ms X (pc + 1) L (.int (x.toUInt32 >>> (y.toUInt32 &&& Int32.toUInt32 31)).toInt32 :: r) m c s Q) : Jj sc d mc ms X pc L S m c s Q := by
  obtain ⟨y, r0, rfl, h0⟩ := pI_e h
  clear h
  obtain ⟨x, r, rfl, h⟩ := pI_e h0
  intro E p e R st mid args below meth cd H locs ls hC hP hS hl
  have hx := hC.1
  have hb := hC.2.1
  exact lv_iushr hx hb hd rfl (h E p e R st mid args below meth cd H locs ls hC hP hS hl)
theorem js_idiv (hd : decode X.2.2.1 pc = .ok (.idiv, 1)) (h : pI S fun y r => pI r fun x r => ¬ y = 0 ∧ Jj sc d mc ms X (pc + 1) L (.int (x / y) :: r) m c s Q) : Jj sc d mc ms X pc L S m c s Q := by
  obtain ⟨y, r0, rfl, hq⟩ := pI_e h
  clear h
  obtain ⟨x, r, rfl, h0, h⟩ := pI_e hq
  intro E p e R st mid args below meth cd H locs ls hC hP hS hl
  have hx := hC.1
  have hb := hC.2.1
  exact lv_idiv hx hb hd h0 (h E p e R st mid args below meth cd H locs ls hC hP hS hl)
theorem js_irem (hd : decode X.2.2.1 pc = .ok (.irem, 1)) (h : pI S fun y r => pI r fun x r => ¬ y = 0 ∧ Jj sc d mc ms X (pc + 1) L (.int (x - x / y * y) :: r) m c s Q) : Jj sc d mc ms X pc L S m c s Q := by
  obtain ⟨y, r0, rfl, hq⟩ := pI_e h
  clear h
  obtain ⟨x, r, rfl, h0, h⟩ := pI_e hq
  intro E p e R st mid args below meth cd H locs ls hC hP hS hl
  have hx := hC.1
  have hb := hC.2.1
  exact lv_irem hx hb hd h0 (h E p e R st mid args below meth cd H locs ls hC hP hS hl)
theorem js_ladd (hd : decode X.2.2.1 pc = .ok (.ladd, 1)) (h : pJ S fun y r => pJ r fun x r => Jj sc d mc ms X (pc + 1) L (.long (x + y) :: r) m c s Q) : Jj sc d mc ms X pc L S m c s Q := by
  obtain ⟨y, r0, rfl, h0⟩ := pJ_e h
  clear h
  obtain ⟨x, r, rfl, h⟩ := pJ_e h0
  intro E p e R st mid args below meth cd H locs ls hC hP hS hl
  have hx := hC.1
  have hb := hC.2.1
  exact lv_ladd hx hb hd (h E p e R st mid args below meth cd H locs ls hC hP hS hl)
theorem js_lmul (hd : decode X.2.2.1 pc = .ok (.lmul, 1)) (h : pJ S fun y r => pJ r fun x r => Jj sc d mc ms X (pc + 1) L (.long (x * y) :: r) m c s Q) : Jj sc d mc ms X pc L S m c s Q := by
  obtain ⟨y, r0, rfl, h0⟩ := pJ_e h
  clear h
  obtain ⟨x, r, rfl, h⟩ := pJ_e h0
  intro E p e R st mid args below meth cd H locs ls hC hP hS hl
  have hx := hC.1
  have hb := hC.2.1
  exact lv_lmul hx hb hd (h E p e R st mid args below meth cd H locs ls hC hP hS hl)
theorem js_lrem (hd : decode X.2.2.1 pc = .ok (.lrem, 1)) (h : pJ S fun y r => pJ r fun x r => ¬ y = 0 ∧ Jj sc d mc ms X (pc + 1) L (.long (x - x / y * y) :: r) m c s Q) : Jj sc d mc ms X pc L S m c s Q := by
  obtain ⟨y, r0, rfl, hq⟩ := pJ_e h
  clear h
  obtain ⟨x, r, rfl, h0, h⟩ := pJ_e hq
  intro E p e R st mid args below meth cd H locs ls hC hP hS hl
  have hx := hC.1
  have hb := hC.2.1
  exact lv_lrem hx hb hd h0 (h E p e R st mid args below meth cd H locs ls hC hP hS hl)
theorem js_lcmp (hd : decode X.2.2.1 pc = .ok (.lcmp, 1)) (h : pJ S fun y r => pJ r fun x r => Jj sc d mc ms X (pc + 1) L (.int (lg_cmp x y) :: r) m c s Q) : Jj sc d mc ms X pc L S m c s Q := by
  obtain ⟨y, r0, rfl, h0⟩ := pJ_e h
  clear h
  obtain ⟨x, r, rfl, h⟩ := pJ_e h0
  intro E p e R st mid args below meth cd H locs ls hC hP hS hl
  have hx := hC.1
  have hb := hC.2.1
  exact W.lcmp hx hb hd (h E p e R st mid args below meth cd H locs ls hC hP hS hl)
theorem js_i2l (hd : decode X.2.2.1 pc = .ok (.i2l, 1)) (h : pI S fun x r => Jj sc d mc ms X (pc + 1) L (.long x.toInt64 :: r) m c s Q) : Jj sc d mc ms X pc L S m c s Q := by
  obtain ⟨x, r, rfl, h⟩ := pI_e h
  intro E p e R st mid args below meth cd H locs ls hC hP hS hl
  have hx := hC.1
  have hb := hC.2.1
  exact lv_i2l hx hb hd rfl (h E p e R st mid args below meth cd H locs ls hC hP hS hl)
theorem js_l2i (hd : decode X.2.2.1 pc = .ok (.l2i, 1)) (h : pJ S fun x r => Jj sc d mc ms X (pc + 1) L (.int x.toInt32 :: r) m c s Q) : Jj sc d mc ms X pc L S m c s Q := by
  obtain ⟨x, r, rfl, h⟩ := pJ_e h
  intro E p e R st mid args below meth cd H locs ls hC hP hS hl
  have hx := hC.1
  have hb := hC.2.1
  exact lv_l2i hx hb hd rfl (h E p e R st mid args below meth cd H locs ls hC hP hS hl)
theorem js_i2b (hd : decode X.2.2.1 pc = .ok (.i2b, 1)) (h : pI S fun x r => Jj sc d mc ms X (pc + 1) L (.int x.toInt8.toInt32 :: r) m c s Q) : Jj sc d mc ms X pc L S m c s Q := by
  obtain ⟨x, r, rfl, h⟩ := pI_e h
  intro E p e R st mid args below meth cd H locs ls hC hP hS hl
  have hx := hC.1
  have hb := hC.2.1
  exact lv_i2b hx hb hd rfl (h E p e R st mid args below meth cd H locs ls hC hP hS hl)
theorem js_i2c (hd : decode X.2.2.1 pc = .ok (.i2c, 1)) (h : pI S fun x r => Jj sc d mc ms X (pc + 1) L (.int (x.toUInt32 % 65536).toInt32 :: r) m c s Q) : Jj sc d mc ms X pc L S m c s Q := by
  obtain ⟨x, r, rfl, h⟩ := pI_e h
  intro E p e R st mid args below meth cd H locs ls hC hP hS hl
  have hx := hC.1
  have hb := hC.2.1
  exact lv_i2c hx hb hd rfl (h E p e R st mid args below meth cd H locs ls hC hP hS hl)
theorem js_dup {v : Value} {r : List Value} (hd : decode X.2.2.1 pc = .ok (.dup, 1)) (h0 : v.category = 1) (h : Jj sc d mc ms X (pc + 1) L (v :: v :: r) m c s Q) : Jj sc d mc ms X pc L (v :: r) m c s Q := by
  intro E p e R st mid args below meth cd H locs ls hC hP hS hl
  have hx := hC.1
  have hb := hC.2.1
  exact lv_dup hx hb hd (by rw [rv_cat]; exact h0) (h E p e R st mid args below meth cd H locs ls hC hP hS hl)
theorem js_pop {v : Value} {r : List Value} (hd : decode X.2.2.1 pc = .ok (.pop, 1)) (h0 : v.category = 1) (h : Jj sc d mc ms X (pc + 1) L r m c s Q) : Jj sc d mc ms X pc L (v :: r) m c s Q := by
  intro E p e R st mid args below meth cd H locs ls hC hP hS hl
  have hx := hC.1
  have hb := hC.2.1
  exact lv_pop hx hb hd (by rw [rv_cat]; exact h0) (h E p e R st mid args below meth cd H locs ls hC hP hS hl)
theorem js_dup2 {v w : Value} {r : List Value} (hd : decode X.2.2.1 pc = .ok (.dup2, 1)) (h0 : v.category = 1 ∧ w.category = 1) (h : Jj sc d mc ms X (pc + 1) L (v :: w :: v :: w :: r) m c s Q) : Jj sc d mc ms X pc L (v :: w :: r) m c s Q := by
  intro E p e R st mid args below meth cd H locs ls hC hP hS hl
  have hx := hC.1
  have hb := hC.2.1
  exact lv_dup2_11 hx hb hd (by rw [rv_cat]; exact h0.1) (by rw [rv_cat]; exact h0.2) (h E p e R st mid args below meth cd H locs ls hC hP hS hl)
theorem js_if_eq {off : Int} {t : Nat} (hd : decode X.2.2.1 pc = .ok (.ifCond .eq off, 3)) (ht : (pc : Int) + off = (t : Int)) (h : pI S fun x r => (x = 0 → Jj sc d mc ms X t L r m c s Q) ∧ (¬ x = 0 → Jj sc d mc ms X (pc + 3) L r m c s Q)) : Jj sc d mc ms X pc L S m c s Q := by
  obtain ⟨x, r, rfl, h1, h2⟩ := pI_e h
  intro E p e R st mid args below meth cd H locs ls hC hP hS hl
  have hx := hC.1
  have hb := hC.2.1
  exact lv_if_eq hx hb hd ht (fun z => h1 z E p e R st mid args below meth cd H locs ls hC hP hS hl) (fun z => h2 z E p e R st mid args below meth cd H locs ls hC hP hS hl)
theorem js_icmp_eq {off : Int} {t : Nat} (hd : decode X.2.2.1 pc = .ok (.if_icmp .eq off, 3)) (ht : (pc : Int) + off = (t : Int)) (h : pI S fun y r => pI r fun x r => (x = y → Jj sc d mc ms X t L r m c s Q) ∧ (¬ x = y → Jj sc d mc ms X (pc + 3) L r m c s Q)) : Jj sc d mc ms X pc L S m c s Q := by
  obtain ⟨y, r0, rfl, h0⟩ := pI_e h
  clear h
  obtain ⟨x, r, rfl, h1, h2⟩ := pI_e h0
  intro E p e R st mid args below meth cd H locs ls hC hP hS hl
  have hx := hC.1
  have hb := hC.2.1
  exact lv_icmp_eq hx hb hd ht (fun z => h1 z E p e R st mid args below meth cd H locs ls hC hP hS hl) (fun z => h2 z E p e R st mid args below meth cd H locs ls hC hP hS hl)
theorem js_if_ne {off : Int} {t : Nat} (hd : decode X.2.2.1 pc = .ok (.ifCond .ne off, 3)) (ht : (pc : Int) + off = (t : Int)) (h : pI S fun x r => (¬ x = 0 → Jj sc d mc ms X t L r m c s Q) ∧ (x = 0 → Jj sc d mc ms X (pc + 3) L r m c s Q)) : Jj sc d mc ms X pc L S m c s Q := by
  obtain ⟨x, r, rfl, h1, h2⟩ := pI_e h
  intro E p e R st mid args below meth cd H locs ls hC hP hS hl
  have hx := hC.1
  have hb := hC.2.1
  exact lv_if_ne hx hb hd ht (fun z => h1 z E p e R st mid args below meth cd H locs ls hC hP hS hl) (fun z => h2 z E p e R st mid args below meth cd H locs ls hC hP hS hl)
theorem js_icmp_ne {off : Int} {t : Nat} (hd : decode X.2.2.1 pc = .ok (.if_icmp .ne off, 3)) (ht : (pc : Int) + off = (t : Int)) (h : pI S fun y r => pI r fun x r => (¬ x = y → Jj sc d mc ms X t L r m c s Q) ∧ (x = y → Jj sc d mc ms X (pc + 3) L r m c s Q)) : Jj sc d mc ms X pc L S m c s Q := by
  obtain ⟨y, r0, rfl, h0⟩ := pI_e h
  clear h
  obtain ⟨x, r, rfl, h1, h2⟩ := pI_e h0
  intro E p e R st mid args below meth cd H locs ls hC hP hS hl
  have hx := hC.1
  have hb := hC.2.1
  exact lv_icmp_ne hx hb hd ht (fun z => h1 z E p e R st mid args below meth cd H locs ls hC hP hS hl) (fun z => h2 z E p e R st mid args below meth cd H locs ls hC hP hS hl)
theorem js_if_lt {off : Int} {t : Nat} (hd : decode X.2.2.1 pc = .ok (.ifCond .lt off, 3)) (ht : (pc : Int) + off = (t : Int)) (h : pI S fun x r => (x < 0 → Jj sc d mc ms X t L r m c s Q) ∧ (¬ x < 0 → Jj sc d mc ms X (pc + 3) L r m c s Q)) : Jj sc d mc ms X pc L S m c s Q := by
  obtain ⟨x, r, rfl, h1, h2⟩ := pI_e h
  intro E p e R st mid args below meth cd H locs ls hC hP hS hl
  have hx := hC.1
  have hb := hC.2.1
  exact lv_if_lt hx hb hd ht (fun z => h1 z E p e R st mid args below meth cd H locs ls hC hP hS hl) (fun z => h2 z E p e R st mid args below meth cd H locs ls hC hP hS hl)
theorem js_icmp_lt {off : Int} {t : Nat} (hd : decode X.2.2.1 pc = .ok (.if_icmp .lt off, 3)) (ht : (pc : Int) + off = (t : Int)) (h : pI S fun y r => pI r fun x r => (x < y → Jj sc d mc ms X t L r m c s Q) ∧ (¬ x < y → Jj sc d mc ms X (pc + 3) L r m c s Q)) : Jj sc d mc ms X pc L S m c s Q := by
  obtain ⟨y, r0, rfl, h0⟩ := pI_e h
  clear h
  obtain ⟨x, r, rfl, h1, h2⟩ := pI_e h0
  intro E p e R st mid args below meth cd H locs ls hC hP hS hl
  have hx := hC.1
  have hb := hC.2.1
  exact lv_icmp_lt hx hb hd ht (fun z => h1 z E p e R st mid args below meth cd H locs ls hC hP hS hl) (fun z => h2 z E p e R st mid args below meth cd H locs ls hC hP hS hl)
theorem js_if_ge {off : Int} {t : Nat} (hd : decode X.2.2.1 pc = .ok (.ifCond .ge off, 3)) (ht : (pc : Int) + off = (t : Int)) (h : pI S fun x r => (0 ≤ x → Jj sc d mc ms X t L r m c s Q) ∧ (¬ 0 ≤ x → Jj sc d mc ms X (pc + 3) L r m c s Q)) : Jj sc d mc ms X pc L S m c s Q := by
  obtain ⟨x, r, rfl, h1, h2⟩ := pI_e h
  intro E p e R st mid args below meth cd H locs ls hC hP hS hl
  have hx := hC.1
  have hb := hC.2.1
  exact lv_if_ge hx hb hd ht (fun z => h1 z E p e R st mid args below meth cd H locs ls hC hP hS hl) (fun z => h2 z E p e R st mid args below meth cd H locs ls hC hP hS hl)
theorem js_icmp_ge {off : Int} {t : Nat} (hd : decode X.2.2.1 pc = .ok (.if_icmp .ge off, 3)) (ht : (pc : Int) + off = (t : Int)) (h : pI S fun y r => pI r fun x r => (y ≤ x → Jj sc d mc ms X t L r m c s Q) ∧ (¬ y ≤ x → Jj sc d mc ms X (pc + 3) L r m c s Q)) : Jj sc d mc ms X pc L S m c s Q := by
  obtain ⟨y, r0, rfl, h0⟩ := pI_e h
  clear h
  obtain ⟨x, r, rfl, h1, h2⟩ := pI_e h0
  intro E p e R st mid args below meth cd H locs ls hC hP hS hl
  have hx := hC.1
  have hb := hC.2.1
  exact lv_icmp_ge hx hb hd ht (fun z => h1 z E p e R st mid args below meth cd H locs ls hC hP hS hl) (fun z => h2 z E p e R st mid args below meth cd H locs ls hC hP hS hl)
theorem js_if_gt {off : Int} {t : Nat} (hd : decode X.2.2.1 pc = .ok (.ifCond .gt off, 3)) (ht : (pc : Int) + off = (t : Int)) (h : pI S fun x r => (0 < x → Jj sc d mc ms X t L r m c s Q) ∧ (¬ 0 < x → Jj sc d mc ms X (pc + 3) L r m c s Q)) : Jj sc d mc ms X pc L S m c s Q := by
  obtain ⟨x, r, rfl, h1, h2⟩ := pI_e h
  intro E p e R st mid args below meth cd H locs ls hC hP hS hl
  have hx := hC.1
  have hb := hC.2.1
  exact lv_if_gt hx hb hd ht (fun z => h1 z E p e R st mid args below meth cd H locs ls hC hP hS hl) (fun z => h2 z E p e R st mid args below meth cd H locs ls hC hP hS hl)
theorem js_icmp_gt {off : Int} {t : Nat} (hd : decode X.2.2.1 pc = .ok (.if_icmp .gt off, 3)) (ht : (pc : Int) + off = (t : Int)) (h : pI S fun y r => pI r fun x r => (y < x → Jj sc d mc ms X t L r m c s Q) ∧ (¬ y < x → Jj sc d mc ms X (pc + 3) L r m c s Q)) : Jj sc d mc ms X pc L S m c s Q := by
  obtain ⟨y, r0, rfl, h0⟩ := pI_e h
  clear h
  obtain ⟨x, r, rfl, h1, h2⟩ := pI_e h0
  intro E p e R st mid args below meth cd H locs ls hC hP hS hl
  have hx := hC.1
  have hb := hC.2.1
  exact lv_icmp_gt hx hb hd ht (fun z => h1 z E p e R st mid args below meth cd H locs ls hC hP hS hl) (fun z => h2 z E p e R st mid args below meth cd H locs ls hC hP hS hl)
theorem js_if_le {off : Int} {t : Nat} (hd : decode X.2.2.1 pc = .ok (.ifCond .le off, 3)) (ht : (pc : Int) + off = (t : Int)) (h : pI S fun x r => (x ≤ 0 → Jj sc d mc ms X t L r m c s Q) ∧ (¬ x ≤ 0 → Jj sc d mc ms X (pc + 3) L r m c s Q)) : Jj sc d mc ms X pc L S m c s Q := by
  obtain ⟨x, r, rfl, h1, h2⟩ := pI_e h
  intro E p e R st mid args below meth cd H locs ls hC hP hS hl
  have hx := hC.1
  have hb := hC.2.1
  exact lv_if_le hx hb hd ht (fun z => h1 z E p e R st mid args below meth cd H locs ls hC hP hS hl) (fun z => h2 z E p e R st mid args below meth cd H locs ls hC hP hS hl)
theorem js_icmp_le {off : Int} {t : Nat} (hd : decode X.2.2.1 pc = .ok (.if_icmp .le off, 3)) (ht : (pc : Int) + off = (t : Int)) (h : pI S fun y r => pI r fun x r => (x ≤ y → Jj sc d mc ms X t L r m c s Q) ∧ (¬ x ≤ y → Jj sc d mc ms X (pc + 3) L r m c s Q)) : Jj sc d mc ms X pc L S m c s Q := by
  obtain ⟨y, r0, rfl, h0⟩ := pI_e h
  clear h
  obtain ⟨x, r, rfl, h1, h2⟩ := pI_e h0
  intro E p e R st mid args below meth cd H locs ls hC hP hS hl
  have hx := hC.1
  have hb := hC.2.1
  exact lv_icmp_le hx hb hd ht (fun z => h1 z E p e R st mid args below meth cd H locs ls hC hP hS hl) (fun z => h2 z E p e R st mid args below meth cd H locs ls hC hP hS hl)
theorem js_goto {off : Int} {t : Nat} (hd : decode X.2.2.1 pc = .ok (.goto off, 3)) (ht : (pc : Int) + off = (t : Int)) (h : Jj sc d mc ms X t L S m c s Q) : Jj sc d mc ms X pc L S m c s Q := by
  intro E p e R st mid args below meth cd H locs ls hC hP hS hl
  have hx := hC.1
  have hb := hC.2.1
  exact lv_goto hx hb hd ht (h E p e R st mid args below meth cd H locs ls hC hP hS hl)
theorem js_ifnullR {off : Int} {a : Nat} {r : List Value} (hd : decode X.2.2.1 pc = .ok (.ifnull off, 3)) (h : Jj sc d mc ms X (pc + 3) L r m c s Q) : Jj sc d mc ms X pc L (.ref a :: r) m c s Q := by
  intro E p e R st mid args below meth cd H locs ls hC hP hS hl
  have hx := hC.1
  have hb := hC.2.1
  exact lv_ifnull hx hb hd (h E p e R st mid args below meth cd H locs ls hC hP hS hl)
theorem js_ifnullN {off : Int} {t : Nat} {r : List Value} (hd : decode X.2.2.1 pc = .ok (.ifnull off, 3)) (ht : (pc : Int) + off = (t : Int)) (h : Jj sc d mc ms X t L r m c s Q) : Jj sc d mc ms X pc L (.null :: r) m c s Q := by
  intro E p e R st mid args below meth cd H locs ls hC hP hS hl
  have hx := hC.1
  have hb := hC.2.1
  exact lv_ifnullN hx hb hd ht (h E p e R st mid args below meth cd H locs ls hC hP hS hl)
theorem js_ifnonnullR {off : Int} {t a : Nat} {r : List Value} (hd : decode X.2.2.1 pc = .ok (.ifnonnull off, 3)) (ht : (pc : Int) + off = (t : Int)) (h : Jj sc d mc ms X t L r m c s Q) : Jj sc d mc ms X pc L (.ref a :: r) m c s Q := by
  intro E p e R st mid args below meth cd H locs ls hC hP hS hl
  have hx := hC.1
  have hb := hC.2.1
  exact lv_ifnonnull hx hb hd ht (h E p e R st mid args below meth cd H locs ls hC hP hS hl)
theorem js_ifnonnullN {off : Int} {r : List Value} (hd : decode X.2.2.1 pc = .ok (.ifnonnull off, 3)) (h : Jj sc d mc ms X (pc + 3) L r m c s Q) : Jj sc d mc ms X pc L (.null :: r) m c s Q := by
  intro E p e R st mid args below meth cd H locs ls hC hP hS hl
  have hx := hC.1
  have hb := hC.2.1
  exact lv_ifnonnullN hx hb hd (h E p e R st mid args below meth cd H locs ls hC hP hS hl)
theorem swl_at {R : Nat → Prop} : ∀ {ts : List Nat} {j k t : Nat} {x : Int32}, swl R ts j x → ts[k]? = some t → x = nI (j + k) → R t := by
  intro ts
  induction ts with
  | nil => intro j k t x _ h; cases h
  | cons a r ih =>
    intro j k t x h hk hx
    unfold swl at h
    cases k with
    | zero => cases hk; exact h.1 hx
    | succ k => exact ih (j := j + 1) (k := k) h.2 hk (by rw [hx]; congr 1; omega)
theorem js_tableswitch {df lo hi : Int} {offs : Array Int} {len t : Nat} {ts : List Nat} (hd : decode X.2.2.1 pc = .ok (.tableswitch df lo hi offs, len)) (hlo : lo = 0) (hhi : hi + 1 = (ts.length : Int)) (hdf : (pc : Int) + df = (t : Int)) (ho : ∀ (k tk : Nat), ts[k]? = some tk → ∃ off, offs[k]? = some off ∧ (pc : Int) + off = (tk : Int)) (hsm : ts.length < 2 ^ 31) (h : pI S fun x r => (x.toInt < 0 ∨ (ts.length : Int) ≤ x.toInt → Jj sc d mc ms X t L r m c s Q) ∧ swl (fun t => Jj sc d mc ms X t L r m c s Q) ts 0 x) : Jj sc d mc ms X pc L S m c s Q := by
  obtain ⟨x, r, rfl, h1, h2⟩ := pI_e h
  intro E p e R st mid args below meth cd H locs ls hC hP hS hl
  have hx := hC.1
  have hb := hC.2.1
  by_cases hin : x.toInt < 0 ∨ (ts.length : Int) ≤ x.toInt
  · refine lv_tableOut hx hb hd ?_ hdf (h1 hin E p e R st mid args below meth cd H locs ls hC hP hS hl)
    rw [hlo]
    rcases hin with z | z
    · exact Or.inl z
    · exact Or.inr (by omega)
  · have hk : x.toInt.toNat < ts.length := by omega
    obtain ⟨off, ho1, ho2⟩ := ho x.toInt.toNat _ (List.getElem?_eq_getElem hk)
    refine lv_tableIn hx hb hd (by rw [hlo]; omega) (by omega) (by rw [hlo, Int.sub_zero]; exact ho1) ho2 ?_
    have hxn : x = nI (0 + x.toInt.toNat) := by
      apply Int32.toInt_inj.mp
      rw [Nat.zero_add, nI_toInt (by omega)]
      omega
    exact swl_at h2 (List.getElem?_eq_getElem hk) hxn E p e R st mid args below meth cd H locs ls hC hP hS hl
end Z4
