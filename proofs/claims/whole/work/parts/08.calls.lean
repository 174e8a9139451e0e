/-! what was there from the start moves with the tables, and stays with the heap -/
theorem Tb_kept {E : En} {U : State} {H H1 : Heap} (h : Tb E U H) (hq : ∀ a : Nat, a < H.size → ¬ eA E a → H1[a]? = H[a]?) : Tb E U H1 := by
  obtain ⟨h1, h2, h3, h4, h5, h6, h7, h8, h9, ha1, ha2, ha3, hb1, hb2, hb3, hb4⟩ := h
  refine ⟨h1, fun i hi => ?_, ⟨h3.1.kept hq, h3.2.kept hq⟩, h4.kept hq, ?_, ⟨?_, h6.2⟩, h7, h8, h9, ha1, ha2.kept hq, ha3.kept hq, hb1, hb2, hb3, hb4⟩
  · have z := h2 i hi
    unfold sOk at z ⊢
    split at z
    · exact ⟨z.1, z.2.1.kept hq, z.2.2.1.kept hq, z.2.2.2.1.kept hq, z.2.2.2.2.kept hq⟩
    · trivial
  · rcases h5 with z | z
    · exact Or.inl (z.kept hq)
    · exact Or.inr (z.kept hq)
  · obtain ⟨scr, hs, -⟩ := id h6.1
    exact h6.1.kept (hq _ (Array.getElem?_eq_some_iff.mp hs).1 (Nat.not_le.mpr h6.2))
theorem Tb_warm {E : En} {U V : State} {H : Heap} (hW : U.WarmedH V.vm) (h : Tb E U H) : Tb E V H := by
  have hv := hW.alike
  obtain ⟨h1, h2, h3, h4, h5, h6, h7, h8, h9, ha1, ha2, ha3, hb1, hb2, hb3, hb4⟩ := h
  refine ⟨h1.moved hv, fun i hi => ?_, ⟨h3.1.moved hv, h3.2.moved hv⟩, h4.moved hv, ?_, ⟨h6.1.moved hv, h6.2⟩, h7.moved hv, fun a i b n d k hm => va_Nw.warmF hW (h8 a i b n d k hm), fun a i x k hm => va_Nw.warmM hW (h9 a i x k hm), ha1, vx_Zq.moved hv ha2, vx_Zq.moved hv ha3, va_Nw.warmC hW hb1, va_Nw.warmD hW hb2, va_Nw.warmD hW hb3, va_Nw.warmD hW hb4⟩
  · have z := h2 i hi
    unfold sOk at z ⊢
    split at z
    · exact ⟨z.1.warm hW, z.2.1.moved hv, z.2.2.1.moved hv, z.2.2.2.1.moved hv, z.2.2.2.2.moved hv⟩
    · trivial
  · rcases h5 with z | z
    · exact Or.inl (z.moved hv)
    · exact Or.inr (z.moved hv)
theorem Tb_same {E : En} {U V : State} {H : Heap} (hv : V.vm = U.vm) (h : Tb E U H) : Tb E V H := by
  have ha : U.vm.Alike V.vm := by rw [hv]; exact Vm.Alike.refl _
  obtain ⟨h1, h2, h3, h4, h5, h6, h7, h8, h9, ha1, ha2, ha3, hb1, hb2, hb3, hb4⟩ := h
  refine ⟨h1.moved ha, fun i hi => ?_, ⟨h3.1.moved ha, h3.2.moved ha⟩, h4.moved ha, ?_, ⟨h6.1.moved ha, h6.2⟩, h7.moved ha, fun a i b n d k hm => va_Nw.same rfl hv.symm (h8 a i b n d k hm), fun a i x k hm => va_Nw.same rfl hv.symm (h9 a i x k hm), ha1, vx_Zq.moved ha ha2, vx_Zq.moved ha ha3, va_Nw.same rfl hv.symm hb1, va_Nw.same rfl hv.symm hb2, va_Nw.same rfl hv.symm hb3, va_Nw.same rfl hv.symm hb4⟩
  · have z := h2 i hi
    unfold sOk at z ⊢
    split at z
    · exact ⟨z.1.same hv, z.2.1.moved ha, z.2.2.1.moved ha, z.2.2.2.1.moved ha, z.2.2.2.2.moved ha⟩
    · trivial
  · rcases h5 with z | z
    · exact Or.inl (z.moved ha)
    · exact Or.inr (z.moved ha)
theorem Pc_blind (E : En) (av : List Value) (m : Mm) : FrameBlind (va_Pc av (fun U => Tb E U U.heap ∧ Hp E m U U.heap)) := by
  intro a U g mk q
  obtain ⟨q0, q1, q2⟩ := q
  exact ⟨q0, Tb_same (U := U) (V := U.calling g mk a) rfl q1, Hp_moved (U := U) (V := U.calling g mk a) (Vm.Alike.refl U.vm) q2⟩
theorem Pc_at {E : En} {av : List Value} {m : Mm} {st : State} {H : Heap} {locs : List Loc} (hT : Tb E st st.heap) (hP : Hp E m st H) (hS : va_S (eA E) st.heap H locs) : ∀ U : State, U.heap = H → st.WarmedH U.vm → va_Pc av (fun U => Tb E U U.heap ∧ Hp E m U U.heap) av.toArray U := by
  intro U hU hW
  refine ⟨rfl, ?_, ?_⟩
  · rw [hU]; exact Tb_warm hW (Tb_kept hT hS.2.1)
  · rw [hU]; exact Hp_moved hW.alike hP
theorem csum_map (E : En) : ∀ r : List Value, ((r.map (rv E)).map fun v => v.category).sum = csum r
  | [] => rfl
  | v :: r => by
    rw [List.map_cons, List.map_cons, List.sum_cons, csum_map E r, rv_cat]
    rfl
theorem tol_map (E : En) (v : Option Value) (r : List Value) : (v.map (rv E)).toList ++ r.map (rv E) = (v.toList ++ r).map (rv E) := by cases v <;> rfl
theorem wsM_good {k : Nat} (hk : k < 349) : GoodIn BIG (wsM (mth k)) := by
  have h := ps_in _ _ (mth_ok hk).1 (by have := (mth_ok hk).2; unfold okN at this; rw [Bool.and_eq_true] at this; exact this.1)
  intro w hw
  rcases List.mem_cons.mp hw with e | e
  · rw [e]
    have hm := h (Cond.code (mth k).2.1 (mth k).2.2.1 (mth k).2.2.2.1 (mth k).2.2.2.2.1) List.mem_cons_self
    exact ⟨hm, (BIG_good _ hm).2⟩
  · exact ⟨e, (BIG_good _ e).2⟩
theorem mth_w {k : Nat} (hk : k < 349) : ∀ w ∈ mwd (mth k), w ∈ BIG := ps_in _ _ (mth_ok hk).1 (by have := (mth_ok hk).2; unfold okN at this; rw [Bool.and_eq_true] at this; exact this.1)
theorem mth_n {k : Nat} (hk : k < 349) : (mth k).2.1.cls = (mth k).1 ∧ (mth k).2.1.cls ≠ "java/lang/invoke/MethodHandle" ∧ (mth k).2.1.cls ≠ "java/lang/invoke/VarHandle" ∧ (parseMethodDescriptor (mth k).2.1.desc).map (fun d => d.parameters.length) = some (mth k).2.2.2.2.2.2.1 ∧ (mth k).2.2.2.1 ≤ 60 ∧ plainFor (mth k).2.1 = true ∧ ((mth k).2.2.2.2.2.1 = 2 → (mth k).2.1.name = "<init>" ∧ (mth k).2.2.2.2.1 = none) := by
  have := (mth_ok hk).2
  unfold okN at this
  rw [Bool.and_eq_true] at this
  exact of_decide_eq_true this.2
section Z8
variable {sc : Nat × (Nat → Int32)} {d mc ms : Nat} {X : MT} {pc : Nat} {L : List (Option Value)} {S : List Value} {m : Mm} {c s : Nat} {Q : Option Value → Mm → Prop}
theorem run_W {E : En} {p : Program} {e : Env} {R : Room} {st : State} {mid : MethodId} {args : Array Value} {below : List Frame} {meth : Method} {cd : Code} {H : Heap} {locs : List Loc} {ls : Array Slot} {mc' ms' : Nat} {stk rest : List Value} {Q' : Option Value → Mm → Prop} {a : Array Value} {Z : State → Prop}
    (hr : va_Run p (eL E) e R st mid args below meth cd H locs c s mc' ms' (F0 mid pc ls stk) rest (QC E Q' a) (eA E)) (hS : va_S (eA E) st.heap H locs)
    (kk : ∀ (v : Option Value) (m' : Mm) (H1 : Heap) (locs1 : List Loc), Q' v m' → Hp E m' st H1 → va_S (eA E) st.heap H1 locs1 → W p (eL E) e R st mid args below meth cd H1 locs1 (c + mc') (s + ms') Z (F0 mid (pc + 3) ls ((v.map (rv E)).toList ++ rest))) : W p (eL E) e R st mid args below meth cd H locs c s Z (F0 mid pc ls stk) := by
  intro T hT X
  obtain ⟨v, st₀, t, T', L, h0, X', hL, e1, e2, ⟨⟨r, m', hv, hq, hp⟩, hz, hk⟩, st'⟩ := hr T hT X
  cases hv
  rw [h0] at hz hk
  have hal : st.vm.Alike t.vm := by rw [← e2]; exact X'.warmed.alike
  obtain ⟨t2, a1, b1⟩ := kk r m' T'.heap (locs ++ L) hq (by rw [e1]; exact Hp_moved hal.symm hp)
    ⟨Nat.le_trans hS.1 (by rw [e1]; exact hz), fun q h1 h2 => by rw [e1, hk q (Nat.lt_of_lt_of_le h1 hS.1) h2]; exact hS.2.1 q h1 h2, fun q hq => by
      rcases List.mem_append.mp hq with h | h
      · exact hS.2.2 q h
      · exact hL q h⟩ T' rfl X'
  exact ⟨t2, st' t2 a1, b1⟩
def mLink (own : String) (index : Nat) (y : MethodName) : Prop := Cond.methodLink own index y ∈ BIG ∨ ∃ host, Cond.methodLinkNest own index y host ∈ tables_1
set_option maxHeartbeats 1000000 in
theorem js_callS {k index mc' ms' : Nat} {as r : List Value} (hd : decode X.2.2.1 pc = .ok (.invokestatic index, 3)) (hk : k < 349) (hst : (mth k).2.2.2.2.2.1 = 1) (hlink : mLink X.1 index (mth k).2.1) (hlen : as.length = (mth k).2.2.2.2.2.2.1) (hbd : 1 ≤ d ∧ csum r ≤ 8 ∧ c + mc' ≤ mc ∧ s + ms' ≤ ms) (h : Cc (d - 1) mc' ms' k as m fun v m' => Jj sc d mc ms X (pc + 3) L (v.toList ++ r) m' (c + mc') (s + ms') Q) : Jj sc d mc ms X pc L (as.reverse ++ r) m c s Q := by
  intro E p e R st mid args below meth cd H locs ls hC hP hS hl
  obtain ⟨hx, hb, hml, hrt, hown, hts, hlk, hnm, hT, hB, ⟨hR1, hR2, hR3, hR4⟩, hsc⟩ := id hC
  have hM := h E
  obtain ⟨n1, n2, n3, n4, n5, n6, n7⟩ := mth_n hk
  have hw := mth_w hk
  have hini := hts _ (hw (Cond.initialized (mth k).2.1.cls) (List.mem_cons_of_mem _ List.mem_cons_self))
  have hstat := hts _ (hw (Cond.static (mth k).2.1) (by unfold mwd; rw [hst]; exact List.mem_cons_of_mem _ (List.mem_cons_of_mem _ List.mem_cons_self)))
  have hRR : (rm (d - 1) mc' ms').frames + 1 ≤ R.frames ∧ 8 + ((mth k).2.2.2.1 + 11) + (rm (d - 1) mc' ms').locals ≤ R.locals := ⟨by show d - 1 + 1 ≤ _; omega, by show 8 + _ + 100 * (d - 1) ≤ _; omega⟩
  have hrun : va_Run p (eL E) e R st mid args below meth cd H locs c s mc' ms' (F0 mid pc ls ((as.reverse ++ r).map (rv E))) (r.map (rv E)) (QC E (fun v m' => Jj sc d mc ms X (pc + 3) L (v.toList ++ r) m' (c + mc') (s + ms') Q) (as.map (rv E)).toArray) (eA E) := by
    rcases hlink with hl1 | ⟨host, hl1⟩
    · exact va_runS (As := as.map (rv E)) (rest := r.map (rv E)) ⟨hx, hb, hml, hown, hts⟩ hM ⟨callB_of (mth k).2.2.2.2.2.2.1 hts (wsM_good hk) rfl rfl rfl hini (hts _ hl1) ⟨n2, n3, n4⟩ hRR, hstat⟩ ⟨Pc_blind _ _ _, Pc_at hT hP hS⟩ rfl (by rw [List.length_map]; exact hlen) hl.1 (by show (as.reverse ++ r).map (rv E) = _; rw [List.map_append, List.map_reverse]) (lv_room (by rw [csum_map]; exact hbd.2.1)) hd ⟨by omega, by omega⟩
    · exact va_runSN (As := as.map (rv E)) (rest := r.map (rv E)) ⟨hx, hb, hml, hown, hts⟩ hM ⟨va_cnB (mth k).2.2.2.2.2.2.1 hts (wsM_good hk) rfl rfl rfl (hT.2.2.2.2.2.2.2.2.1 _ _ _ _ hl1) hini ⟨n2, n3, n4⟩ hRR, hstat, trivial⟩ ⟨Pc_blind _ _ _, Pc_at hT hP hS⟩ rfl (by rw [List.length_map]; exact hlen) hl.1 (by show (as.reverse ++ r).map (rv E) = _; rw [List.map_append, List.map_reverse]) (lv_room (by rw [csum_map]; exact hbd.2.1)) hd ⟨by omega, by omega⟩
  refine run_W hrun hS fun v m' H1 locs1 hq hp hS1 => ?_
  rw [tol_map]
  exact hq E p e R st mid args below meth cd H1 locs1 ls hC hp hS1 hl
set_option maxHeartbeats 1000000 in
theorem js_callI {k index mc' ms' b : Nat} {as r : List Value} (hd : decode X.2.2.1 pc = .ok (.invokespecial index, 3)) (hk : k < 349) (hst : (mth k).2.2.2.2.2.1 = 2) (hlink : mLink X.1 index (mth k).2.1) (hlen : as.length = (mth k).2.2.2.2.2.2.1) (hbd : 1 ≤ d ∧ csum r ≤ 8 ∧ c + mc' ≤ mc ∧ s + ms' ≤ ms) (h : Cc (d - 1) mc' ms' k (.ref b :: as) m fun v m' => Jj sc d mc ms X (pc + 3) L (v.toList ++ r) m' (c + mc') (s + ms') Q) : Jj sc d mc ms X pc L (as.reverse ++ .ref b :: r) m c s Q := by
  intro E p e R st mid args below meth cd H locs ls hC hP hS hl
  obtain ⟨hx, hb, hml, hrt, hown, hts, hlk, hnm, hT, hB, ⟨hR1, hR2, hR3, hR4⟩, hsc⟩ := id hC
  have hM := h E
  obtain ⟨n1, n2, n3, n4, n5, n6, n7⟩ := mth_n hk
  obtain ⟨n8, n9⟩ := n7 hst
  have hw := mth_w hk
  have hini := hts _ (hw (Cond.initialized (mth k).2.1.cls) (List.mem_cons_of_mem _ List.mem_cons_self))
  have hins := hts _ (hw (Cond.instanceMethod (mth k).2.1) (by unfold mwd; rw [hst]; exact List.mem_cons_of_mem _ (List.mem_cons_of_mem _ List.mem_cons_self)))
  have hws : wsM (mth k) = Cond.code (mth k).2.1 (mth k).2.2.1 (mth k).2.2.2.1 none :: BIG := by unfold wsM; rw [n9]
  have hRR : (rm (d - 1) mc' ms').frames + 1 ≤ R.frames ∧ 8 + ((mth k).2.2.2.1 + 11) + (rm (d - 1) mc' ms').locals ≤ R.locals := ⟨by show d - 1 + 1 ≤ _; omega, by show 8 + _ + 100 * (d - 1) ≤ _; omega⟩
  have hrun : va_Run p (eL E) e R st mid args below meth cd H locs c s mc' ms' (F0 mid pc ls ((as.reverse ++ .ref b :: r).map (rv E))) (r.map (rv E)) (QC E (fun v m' => Jj sc d mc ms X (pc + 3) L (v.toList ++ r) m' (c + mc') (s + ms') Q) ((Value.ref b :: as).map (rv E)).toArray) (eA E) := by
    rcases hlink with hl1 | ⟨host, hl1⟩
    · exact va_runI (b := ro E b) (As := as.map (rv E)) (rest := r.map (rv E)) ⟨hx, hb, hml, hown, hts⟩ hM ⟨callB_of (mth k).2.2.2.2.2.2.1 hts (wsM_good hk) hws rfl rfl hini (hts _ hl1) ⟨n2, n3, n4⟩ hRR, n8, hins⟩ ⟨Pc_blind _ _ _, Pc_at (av := (Value.ref b :: as).map (rv E)) hT hP hS⟩ rfl (by rw [List.length_map]; exact hlen) hl.1 (by show (as.reverse ++ .ref b :: r).map (rv E) = _; rw [List.map_append, List.map_reverse]; rfl) (lv_room (by rw [csum_map]; exact hbd.2.1)) hd ⟨by omega, by omega⟩
    · exact va_runIN (b := ro E b) (As := as.map (rv E)) (rest := r.map (rv E)) ⟨hx, hb, hml, hown, hts⟩ hM ⟨va_cnB (mth k).2.2.2.2.2.2.1 hts (wsM_good hk) hws rfl rfl (hT.2.2.2.2.2.2.2.2.1 _ _ _ _ hl1) hini ⟨n2, n3, n4⟩ hRR, n8, hins⟩ ⟨Pc_blind _ _ _, Pc_at (av := (Value.ref b :: as).map (rv E)) hT hP hS⟩ rfl (by rw [List.length_map]; exact hlen) hl.1 (by show (as.reverse ++ .ref b :: r).map (rv E) = _; rw [List.map_append, List.map_reverse]; rfl) (lv_room (by rw [csum_map]; exact hbd.2.1)) hd ⟨by omega, by omega⟩
  refine run_W hrun hS fun v m' H1 locs1 hq hp hS1 => ?_
  rw [tol_map]
  exact hq E p e R st mid args below meth cd H1 locs1 ls hC hp hS1 hl
/-- the receiver: an object of the world, or a text -/
def recv (m : Mm) (b : Nat) (C : String) : Prop := (∃ t r, oS m b t ∧ t < 50 ∧ vwCl[t]? = some r ∧ r.1 = C) ∨ (C = "java/lang/String" ∧ 1000000 ≤ b ∧ b < 1000000 + sS.length)
theorem recv_at {E : En} {m : Mm} {st : State} {H : Heap} {locs : List Loc} {b : Nat} {C : String} (hT : Tb E st st.heap) (hP : Hp E m st H) (hS : va_S (eA E) st.heap H locs) (h : recv m b C) : ∃ cellB : Cell, H[ro E b]? = some cellB ∧ cellB.vm.isStatics = false ∧ st.vm.findClass C = some cellB.cls := by
  rcases h with ⟨t, r, ho, ht, hc, hC⟩ | ⟨hC, h1, h2⟩
  · obtain ⟨r', h1, -, cell, g1, g2, g3, -⟩ := Hp_obj hP ho ht
    cases hc.symm.trans h1
    exact ⟨cell, by rw [ro_lo hP ho]; exact g1, by rw [g3]; rfl, by rw [g2, ← hC]; exact (hT.1.1 t r hc).2.1⟩
  · obtain ⟨i, rfl⟩ : ∃ i, b = 1000000 + i := ⟨b - 1000000, by omega⟩
    obtain ⟨cell, g1, g2, g3, g4⟩ := (sOk_at hT (show i < sS.length by omega)).2.1
    have er : ro E (1000000 + i) = eO E (1000000 + i) := if_neg (by omega)
    rw [er, hC]
    exact ⟨cell, by rw [hS.2.1 _ (Array.getElem?_eq_some_iff.mp g1).1 g4]; exact g1, g2, g3⟩
set_option maxHeartbeats 1000000 in
theorem js_callV {k index mc' ms' b : Nat} {as r : List Value} (hd : decode X.2.2.1 pc = .ok (.invokevirtual index, 3)) (hk : k < 349) (hst : (mth k).2.2.2.2.2.1 = 0) (hlink : mLink X.1 index (mth k).2.1) (hlen : as.length = (mth k).2.2.2.2.2.2.1) (hbd : 1 ≤ d ∧ csum r ≤ 8 ∧ c + mc' ≤ mc ∧ s + ms' ≤ ms) (hre : recv m b (mth k).2.1.cls) (h : Cc (d - 1) mc' ms' k (.ref b :: as) m fun v m' => Jj sc d mc ms X (pc + 3) L (v.toList ++ r) m' (c + mc') (s + ms') Q) : Jj sc d mc ms X pc L (as.reverse ++ .ref b :: r) m c s Q := by
  intro E p e R st mid args below meth cd H locs ls hC hP hS hl
  obtain ⟨hx, hb, hml, hrt, hown, hts, hlk, hnm, hT, hB, ⟨hR1, hR2, hR3, hR4⟩, hsc⟩ := id hC
  have hM := h E
  obtain ⟨n1, n2, n3, n4, n5, n6, n7⟩ := mth_n hk
  have hw := mth_w hk
  have hini := hts _ (hw (Cond.initialized (mth k).2.1.cls) (List.mem_cons_of_mem _ List.mem_cons_self))
  have hins := hts _ (hw (Cond.instanceMethod (mth k).2.1) (by unfold mwd; rw [hst]; exact List.mem_cons_of_mem _ (List.mem_cons_of_mem _ List.mem_cons_self)))
  have hsel := hts _ (hw (Cond.selects (mth k).2.1.cls (mth k).2.1 (mth k).2.1) (by unfold mwd; rw [hst]; exact List.mem_cons_of_mem _ (List.mem_cons_of_mem _ (List.mem_cons_of_mem _ List.mem_cons_self))))
  have hRR : (rm (d - 1) mc' ms').frames + 1 ≤ R.frames ∧ 8 + ((mth k).2.2.2.1 + 11) + (rm (d - 1) mc' ms').locals ≤ R.locals := ⟨by show d - 1 + 1 ≤ _; omega, by show 8 + _ + 100 * (d - 1) ≤ _; omega⟩
  have hrun : va_Run p (eL E) e R st mid args below meth cd H locs c s mc' ms' (F0 mid pc ls ((as.reverse ++ .ref b :: r).map (rv E))) (r.map (rv E)) (QC E (fun v m' => Jj sc d mc ms X (pc + 3) L (v.toList ++ r) m' (c + mc') (s + ms') Q) ((Value.ref b :: as).map (rv E)).toArray) (eA E) := by
    rcases hlink with hl1 | ⟨host, hl1⟩
    · exact va_runV (b := ro E b) (As := as.map (rv E)) (rest := r.map (rv E)) ⟨hx, hb, hml, hown, hts⟩ hM ⟨callB_of (mth k).2.2.2.2.2.2.1 hts (wsM_good hk) rfl rfl rfl hini (hts _ hl1) ⟨n2, n3, n4⟩ hRR, hins, hsel⟩ ⟨Pc_blind _ _ _, recv_at hT hP hS hre, Pc_at (av := (Value.ref b :: as).map (rv E)) hT hP hS⟩ rfl (by rw [List.length_map]; exact hlen) hl.1 (by show (as.reverse ++ .ref b :: r).map (rv E) = _; rw [List.map_append, List.map_reverse]; rfl) (lv_room (by rw [csum_map]; exact hbd.2.1)) hd ⟨by omega, by omega⟩
    · exact va_runVN (b := ro E b) (As := as.map (rv E)) (rest := r.map (rv E)) ⟨hx, hb, hml, hown, hts⟩ hM ⟨va_cnB (mth k).2.2.2.2.2.2.1 hts (wsM_good hk) rfl rfl rfl (hT.2.2.2.2.2.2.2.2.1 _ _ _ _ hl1) hini ⟨n2, n3, n4⟩ hRR, hins, hsel⟩ ⟨Pc_blind _ _ _, recv_at hT hP hS hre, Pc_at (av := (Value.ref b :: as).map (rv E)) hT hP hS⟩ rfl (by rw [List.length_map]; exact hlen) hl.1 (by show (as.reverse ++ .ref b :: r).map (rv E) = _; rw [List.map_append, List.map_reverse]; rfl) (lv_room (by rw [csum_map]; exact hbd.2.1)) hd ⟨by omega, by omega⟩
  refine run_W hrun hS fun v m' H1 locs1 hq hp hS1 => ?_
  rw [tol_map]
  exact hq E p e R st mid args below meth cd H1 locs1 ls hC hp hS1 hl
theorem js_obj {index a : Nat} {r : List Value} (hd : decode X.2.2.1 pc = .ok (.invokespecial index, 3)) (hw1 : Cond.methodLink X.1 index objectInit ∈ BIG) (hw2 : Cond.instanceMethod objectInit ∈ BIG) (hw3 : Cond.code objectInit ⟨#[0xb1]⟩ 1 none ∈ BIG) (hbd : 1 ≤ d ∧ csum r ≤ 8) (h : Jj sc d mc ms X (pc + 3) L r m c s Q) : Jj sc d mc ms X pc L (.ref a :: r) m c s Q := by
  intro E p e R st mid args below meth cd H locs ls hC hP hS hl
  obtain ⟨hx, hb, hml, hrt, hown, hts, hlk, hnm, hT, hB, ⟨hR1, hR2, hR3, hR4⟩, hsc⟩ := id hC
  refine W.objInit hx hb hown (hts _ hw1) (hts _ hw2) (hts _ hw3) (g := F0 mid pc ls (.ref (ro E a) :: r.map (rv E))) rfl (by rw [hml]; exact hl.1) rfl hd (by omega) ?_ (h E p e R st mid args below meth cd H locs ls hC hP hS hl)
  have := csum_map E r
  show 2 * 0 + _ + 12 ≤ _
  omega
theorem js_max {index : Nat} {x y : Int32} {r : List Value} (hd : decode X.2.2.1 pc = .ok (.invokestatic index, 3)) (hw1 : Cond.methodLink X.1 index Lib.Math.max.name ∈ BIG) (hw2 : Cond.static Lib.Math.max.name ∈ BIG) (hw3 : Cond.initialized "java/lang/Math" ∈ BIG) (hw4 : Cond.code Lib.Math.max.name Lib.Math.max.code 2 (some .int) ∈ BIG) (hbd : 1 ≤ d ∧ csum r ≤ 8 ∧ c ≤ mc ∧ s ≤ ms) (h : Jj sc d mc ms X (pc + 3) L (.int (if x < y then y else x) :: r) m c s Q) : Jj sc d mc ms X pc L (.int y :: .int x :: r) m c s Q := by
  intro E p e R st mid args below meth cd H locs ls hC hP hS hl
  obtain ⟨hx, hb, hml, hrt, hown, hts, hlk, hnm, hT, hB, ⟨hR1, hR2, hR3, hR4⟩, hsc⟩ := id hC
  have := csum_map E r
  exact va_mmax hx hb (by rw [hml]; exact hl.1.symm) hown (hts _ hw1) (hts _ hw2) (hts _ hw3) (hts _ hw4) (by omega) (by omega) (by omega) (by omega) hd (h E p e R st mid args below meth cd H locs ls hC hP hS hl)
theorem js_min {index : Nat} {x y : Int32} {r : List Value} (hd : decode X.2.2.1 pc = .ok (.invokestatic index, 3)) (hw1 : Cond.methodLink X.1 index Lib.Math.min.name ∈ BIG) (hw2 : Cond.static Lib.Math.min.name ∈ BIG) (hw3 : Cond.initialized "java/lang/Math" ∈ BIG) (hw4 : Cond.code Lib.Math.min.name Lib.Math.min.code 2 (some .int) ∈ BIG) (hbd : 1 ≤ d ∧ csum r ≤ 8 ∧ c ≤ mc ∧ s ≤ ms) (h : Jj sc d mc ms X (pc + 3) L (.int (if y < x then y else x) :: r) m c s Q) : Jj sc d mc ms X pc L (.int y :: .int x :: r) m c s Q := by
  intro E p e R st mid args below meth cd H locs ls hC hP hS hl
  obtain ⟨hx, hb, hml, hrt, hown, hts, hlk, hnm, hT, hB, ⟨hR1, hR2, hR3, hR4⟩, hsc⟩ := id hC
  have := csum_map E r
  exact va_mmin hx hb (by rw [hml]; exact hl.1.symm) hown (hts _ hw1) (hts _ hw2) (hts _ hw3) (hts _ hw4) (by omega) (by omega) (by omega) (by omega) hd (h E p e R st mid args below meth cd H locs ls hC hP hS hl)
theorem cl_int {z : Int32} (hz : ¬ z < 0) : z.toInt = (z.toNatClampNeg : Int) := by
  have hz0 : (0 : Int) ≤ z.toInt := by
    have := Int32.not_lt.mp hz
    simpa using Int32.le_iff_toInt_le.mp this
  show z.toInt = ((z.toInt.toNat : Nat) : Int)
  omega
set_option maxHeartbeats 2000000 in
theorem js_copy {index a b : Nat} {sp dp n : Int32} {r : List Value} (hd : decode X.2.2.1 pc = .ok (.invokestatic index, 3)) (hw1 : Cond.methodLink X.1 index arraycopyName ∈ BIG) (hw2 : Cond.native arraycopyName ∈ BIG) (hw3 : Cond.static arraycopyName ∈ BIG) (hw4 : Cond.initialized "java/lang/System" ∈ BIG) (hbd : 1 ≤ d ∧ csum r ≤ 8) (ho : oS m a 100 ∧ oS m b 100) (hq : ¬ sp < 0 ∧ ¬ dp < 0 ∧ ¬ n < 0 ∧ sp.toNatClampNeg + n.toNatClampNeg ≤ (mS m a).2 ∧ dp.toNatClampNeg + n.toNatClampNeg ≤ (mS m b).2) (h : Jj sc d mc ms X (pc + 3) L r (rI m b (va_cpy (mI m a) (mI m b) sp.toNatClampNeg dp.toNatClampNeg n.toNatClampNeg)) c s Q) : Jj sc d mc ms X pc L (.int n :: .int dp :: .ref b :: .int sp :: .ref a :: r) m c s Q := by
  intro E p e R st mid args below meth cd H locs ls hC hP hS hl
  obtain ⟨hx, hb, hml, hrt, hown, hts, hlk, hnm, hT, hB, ⟨hR1, hR2, hR3, hR4⟩, hsc⟩ := id hC
  obtain ⟨h1, h2, h3, h4, h5⟩ := hq
  obtain ⟨cA, ⟨hA1, hA2⟩, hcA⟩ := Hp_100 hP ho.1
  obtain ⟨cB, ⟨hB1, hB2⟩, hcB⟩ := Hp_100 hP ho.2
  obtain ⟨-, k0, hk0, cm0, hkk0⟩ := hA1 (mS m a).2 (fun j => .int (mI m a j))
  obtain ⟨-, k1, hk1, cm1, hkk1⟩ := hB1 (mS m b).2 (fun j => .int (mI m b j))
  have hcs := csum_map E r
  show W _ _ _ _ _ _ _ _ _ _ _ _ _ _ _ (F0 mid pc ls (.int n :: .int dp :: .ref (ro E b) :: .int sp :: .ref (ro E a) :: r.map (rv E)))
  rw [ro_lo hP ho.1, ro_lo hP ho.2]
  intro T hTT XX
  have hrd : ∀ j, j < (mS m a).2 → (arrV cA (mS m a).2 (fun j => .int (mI m a j))).slots[j]? = some (.int (mI m a j)) := fun j hj => arrV_read _ _ hj
  obtain ⟨vm', X', step⟩ := XX.arraycopy hx hown (hts _ hw1) (hts _ hw2) (hts _ hw3) (hts _ hw4) (src := eB E + a) (dst := eB E + b) (srcPos := sp) (destPos := dp) (n := n) (by rw [hTT]; exact hcA) (by rw [hTT]; exact hcB)
    (fun _ h => by cases h) (fun _ h => by cases h) (fun h => by cases h) (fun h => by cases h) hk0 hk1 hkk0 hkk1 (by simp [refKind]) h1 h2 h3
    (by rw [cl_int h1, cl_int h3, arrV_size]; omega)
    (by rw [cl_int h2, cl_int h3, arrV_size]; omega)
    (fun vm₁ _ i hi => by
      have e : (arrV cA (mS m a).2 (fun j => .int (mI m a j))).slots.getD (sp.toNatClampNeg + i) .null = .int (mI m a (sp.toNatClampNeg + i)) := by
        rw [Array.getD_eq_getD_getElem?, hrd _ (by omega)]
        rfl
      refine ⟨?_, ?_⟩
      · rw [e]
        rfl
      · rw [e]
        exact trivial)
    (g := F0 mid pc ls (.int n :: .int dp :: .ref (eB E + b) :: .int sp :: .ref (eB E + a) :: r.map (rv E))) rfl (by rw [hml]; exact hl.1) (rest := r.map (rv E)) rfl (by rw [hb]; exact hd) (by omega) (by
      have e5 : nativeFrameWords "java/lang/System" "arraycopy" 5 ≤ 50 := by decide +kernel
      show 2 * 0 + _ + _ ≤ _
      omega)
  have e1 : copied (arrV cA (mS m a).2 (fun j => .int (mI m a j))) (arrV cB (mS m b).2 (fun j => .int (mI m b j))) sp dp n = arrV cB (mS m b).2 (fun j => .int (va_cpy (mI m a) (mI m b) sp.toNatClampNeg dp.toNatClampNeg n.toNatClampNeg j)) := va_copiedX (fun z => .int z) _ cB (mI m a) (mI m b) hrd h4
  rw [e1] at X' step
  have hlt : eB E + b < H.size := (Array.getElem?_eq_some_iff.mp hcB).1
  generalize hcell : arrV cB (mS m b).2 (fun j => .int (va_cpy (mI m a) (mI m b) sp.toNatClampNeg dp.toNatClampNeg n.toNatClampNeg j)) = cell at X' step
  have hheap : ((T.setVm vm').setCell (eB E + b) cell).heap = H.setIfInBounds (eB E + b) cell := by rw [← hTT]; rfl
  have oq : ∀ q : Nat, q ≠ eB E + b → (H.setIfInBounds (eB E + b) cell)[q]? = H[q]? := fun q hq => by simp [Array.getElem?_setIfInBounds, Ne.symm hq]
  have z1 : (H.setIfInBounds (eB E + b) cell).size = H.size := by simp
  obtain ⟨t, a1, b1⟩ := h E p e R st mid args below meth cd (H.setIfInBounds (eB E + b) cell) _ ls hC (Hp_upd hP rfl (fun b' hb => ⟨rI_ne hb, rfl, rfl, rfl⟩) z1 oq fun _ => by
      rw [zc_100 (show (mS (rI m b _) b).1 = 100 from ho.2.2)]
      refine ⟨cB, ⟨hB1, hB2⟩, ?_⟩
      rw [rI_eq]
      show _ = some (arrV cB (mS m b).2 _)
      rw [hcell]
      simp [Array.getElem?_setIfInBounds, hlt]) ⟨by rw [z1]; exact hS.1, fun q g1 g2 => by
      rw [oq q (fun e => g2 (by rw [e]; exact Nat.le_add_right _ _))]
      exact hS.2.1 q g1 g2, fun q hq => by
      rcases List.mem_append.mp hq with h | h
      · exact hS.2.2 q h
      · obtain ⟨z, -, hz⟩ := List.mem_map.mp h
        rw [← hz]
        exact Nat.le_add_right _ _⟩ hl _ hheap X'
  exact ⟨t, step t a1, b1⟩
/-! a contract out of the judgement at the entry -/
theorem zE_sub (E : En) : ∀ (vs : List Value) (i k : Nat) (v : Value) (r : Nat), (((vs.flatMap fun v => if v.category = 2 then [some v, none] else [some v]) ++ List.replicate r none : List (Option Value)).getD k none = some v) → (i + k, rv E v) ∈ lv_args i (vs.map (rv E))
  | [], i, k, v, r, h => by
    have := gd_lt h
    rw [List.flatMap_nil, List.nil_append, List.getD_eq_getElem?_getD] at h
    rw [List.flatMap_nil, List.nil_append, List.length_replicate] at this
    rw [List.getElem?_replicate, if_pos this] at h
    cases h
  | u :: vs, i, k, v, r, h => by
    rw [List.flatMap_cons] at h
    rw [List.map_cons]
    unfold lv_args
    rw [rv_cat]
    by_cases hc : u.category = 2
    · rw [if_pos hc] at h ⊢
      match k, h with
      | 0, h => cases h; exact List.mem_cons_self
      | 1, h => cases h
      | k + 2, h =>
        refine List.mem_cons_of_mem _ ?_
        have := zE_sub E vs (i + 2) k v r h
        rw [show i + (k + 2) = i + 2 + k by omega]
        exact this
    · rw [if_neg hc] at h ⊢
      match k, h with
      | 0, h => cases h; exact List.mem_cons_self
      | k + 1, h =>
        refine List.mem_cons_of_mem _ ?_
        have := zE_sub E vs (i + 1) k v r h
        rw [show i + (k + 1) = i + 1 + k by omega]
        exact this
theorem sl_len (E : En) : ∀ vs : List Value, (lg_sl (vs.map (rv E))).length = (vs.flatMap fun v => if v.category = 2 then [some v, none] else [some v]).length
  | [] => rfl
  | v :: vs => by
    have := sl_len E vs
    unfold lg_sl at this ⊢
    rw [List.map_cons, List.flatMap_cons, List.flatMap_cons, List.length_append, List.length_append, this, rv_cat]
    split <;> rfl
theorem Cc_of {d mc ms k : Nat} {args : List Value} {m : Mm} {Q : Option Value → Mm → Prop} (hk : k < 349) (hlen : (args.flatMap fun v => if v.category = 2 then [some v, none] else [some v]).length ≤ (mth k).2.2.2.1) (h : ∀ sc, Jj sc d mc ms (mth k) 0 (zE (mth k).2.2.2.1 args) [] m 0 0 Q) : Cc d mc ms k args m Q := by
  intro E
  obtain ⟨n1, n2, n3, n4, n5, n6, n7⟩ := mth_n hk
  refine va_MetF (cc := (mth k).2.2.1) (maxL := (mth k).2.2.2.1) (ret := (mth k).2.2.2.2.1) n6 rfl ?_
  intro p e s m1 args1 below meth c s₁ B hml hv
  obtain ⟨rfl, hT, hP⟩ := hv
  have hts := atoms_spec (ws := wsM (mth k)) B.pre
  have hl := lv_entry (args.map (rv E)) (n := (mth k).2.2.2.1) (by rw [sl_len]; exact hlen)
  rw [lg_entry_eq]
  refine h (eN E, eX E) E p e (headSpec (wsM (mth k)) (rm d mc ms)).room s m1 _ below meth c s.heap [] _ ⟨B.exec, B.bytes, hml, B.returns, by rw [← n1]; exact findClass_of_methodNamed B.named, fun w hw => hts w (List.mem_cons_of_mem _ hw), B.notSynchronized, (name_of_methodNamed B.named B.method).1, hT, by rw [hP.1]; exact Nat.le_add_right _ _, ⟨Nat.le_refl _, Nat.le_refl _, Nat.le_refl _, Nat.le_refl _⟩, rfl, rfl⟩ hP va_S.rf (lv_mono hl fun q hq => ?_)
  obtain ⟨v, hv, hw⟩ := zlv_of hq
  have := zE_sub E args 0 q.1 v _ hv
  rw [Nat.zero_add] at this
  obtain ⟨q1, q2⟩ := q
  dsimp only at hw this
  rw [hw]
  exact this
end Z8
