/-! ===== the start: all that was there before ===== -/
theorem Tb_start {l : Launch} {s : State} {b L : Nat} {xs : Nat → Int32} (hflags : l.flags = flags0) (hts : ∀ w ∈ lw_tbl, w.before #[Value.ref b] s = true) (hX : va_X b L xs s s.heap) (hbl : b < s.heap.size) (hg : (Jvm.Cond.and given_1 narrow_1).before #[Value.ref b] s = true) :
    ∃ E : En, eL E = l ∧ eB E = s.heap.size ∧ eN E = L ∧ eX E = xs ∧ eO E 3000000 = b ∧ Tb E s s.heap := by
  obtain ⟨dC, dI, hK⟩ := K_start hts
  have hA : ∀ a : Nat, a < s.heap.size → ¬ (fun q : Nat => s.heap.size ≤ q) a := fun a h => Nat.not_le.mpr h
  obtain ⟨t0, ht0, hT0⟩ := va_Tof (tm := roT) (ty := .int) (N := 13) (f := fun j => .int (roomL.getD j 0)) (by decide) (pq_b hg ro_a) (va_eqt (pq_b hg ro_l)) (fun j hj => va_eqt (pq_b hg (ro_e j hj))) hA
  have hZ0 := va_Zof (A := fun q : Nat => s.heap.size ≤ q) (hts _ tl_ro) (hts _ ti_pw) ht0 hA
  have hZ1 := va_Zof (A := fun q : Nat => s.heap.size ≤ q) (hts _ tl_cs) (hts _ ti_st) (va_eqt (pq_b hg cs_e)) hA
  obtain ⟨t2, hZ2⟩ : ∃ t2 : Nat, va_Z "jdk/internal/util/Preconditions" "SIOOBE_FORMATTER" "Ljava/util/function/BiFunction;" .null (fun q : Nat => s.heap.size ≤ q) s s.heap ∨ va_Z "jdk/internal/util/Preconditions" "SIOOBE_FORMATTER" "Ljava/util/function/BiFunction;" (.ref t2) (fun q : Nat => s.heap.size ≤ q) s s.heap := by
    rcases va_Zqof (A := fun q : Nat => s.heap.size ≤ q) (hts _ tl_si) (hts _ ti_pc) (pq_b hg si_r) hA with h | ⟨t, h⟩
    · exact ⟨0, Or.inl h⟩
    · exact ⟨t, Or.inr h⟩
  have hU := vx_Zqof (A := fun q : Nat => s.heap.size ≤ q) (hts _ tl_un) (hts _ ti_th) (pq_b hg un_r) hA
  have hV := vx_Zqof (A := fun q : Nat => s.heap.size ≤ q) (hts _ tl_su) (hts _ ti_th) (pq_b hg su_r) hA
  have h0 : ∀ i : Nat, ∃ q : Nat × Nat, ∀ (o : String) (k : Nat) (tx : String) (bs : List Int32), sS[i]? = some (o, k, tx, bs) → vk_R o k tx q.1 s ∧ va_O "java/lang/String" q.1 (fun q : Nat => s.heap.size ≤ q) s s.heap ∧ va_OF "java/lang/String" "coder" "B" (.int 0) q.1 (fun q : Nat => s.heap.size ≤ q) s s.heap ∧ va_OF "java/lang/String" "value" "[B" (.ref q.2) q.1 (fun q : Nat => s.heap.size ≤ q) s s.heap ∧ va_T .byte q.2 bs.length (fun j => .int (bs.getD j 0)) (fun q : Nat => s.heap.size ≤ q) s s.heap := by
    intro i
    cases hi : sS[i]? with
    | none => exact ⟨(0, 0), fun o k tx bs h => nomatch h⟩
    | some z =>
      obtain ⟨o, k, tx, bs⟩ := z
      obtain ⟨q, hq⟩ := text_at hts hg hA hi
      refine ⟨q, fun o9 k9 tx9 bs9 h => ?_⟩
      cases Option.some.inj h
      exact hq
  obtain ⟨ad, had⟩ := Classical.axiomOfChoice h0
  refine ⟨(l, dC, dI, s.heap.size, fun k => if k = 3000000 then b else if k = 3000001 then t0 else if k = 3000002 then t2 else if k < 2000000 then (ad (k - 1000000)).1 else (ad (k - 2000000)).2, L, xs), rfl, rfl, rfl, rfl, rfl, ?_⟩
  refine ⟨hK, fun i hi => ?_, ⟨hZ0, hT0⟩, hZ1, hZ2, ⟨hX, hbl⟩, va_AO.of (hts _ ta_o), fun a i b n d h hm => va_Nw.of rfl (hts _ (List.mem_append_right _ hm)), fun a i x h hm => va_Nw.of rfl (hts _ (List.mem_append_right _ hm)), ?_, hU, hV, va_Nw.of rfl (hts _ tn_c), va_Nw.of rfl (hts _ tn_r), va_Nw.of rfl (hts _ tn_e), va_Nw.of rfl (hts _ tn_t)⟩
  · unfold sOk
    have hi9 : i < 59 := hi
    have g1 : (fun k : Nat => if k = 3000000 then b else if k = 3000001 then t0 else if k = 3000002 then t2 else if k < 2000000 then (ad (k - 1000000)).1 else (ad (k - 2000000)).2) (1000000 + i) = (ad i).1 := by
      dsimp only
      rw [if_neg (by omega), if_neg (by omega), if_neg (by omega), if_pos (by omega), show 1000000 + i - 1000000 = i by omega]
    have g2 : (fun k : Nat => if k = 3000000 then b else if k = 3000001 then t0 else if k = 3000002 then t2 else if k < 2000000 then (ad (k - 1000000)).1 else (ad (k - 2000000)).2) (2000000 + i) = (ad i).2 := by
      dsimp only
      rw [if_neg (by omega), if_neg (by omega), if_neg (by omega), if_neg (by omega), show 2000000 + i - 2000000 = i by omega]
    split
    · rename_i o k tx bs h9
      have := had i o k tx bs h9
      rw [← g1, ← g2] at this
      exact this
    · trivial
  · show l.stackTraces = false
    unfold Launch.stackTraces
    rw [hflags]
    decide +kernel
