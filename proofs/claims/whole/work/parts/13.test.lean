theorem ent {d mc ms k n : Nat} {P : List (List PE)} {args : List Value} {m : Mm} {Q : Option Value → Mm → Prop} (hP : zall (mth k) P (P.length * 32) = true) (hk : k < 349) (h0 : (pg P 0).1 = 0) (hp : 0 < P.length) (hlen : (args.flatMap fun v => if v.category = 2 then [some v, none] else [some v]).length ≤ (mth k).2.2.2.1) (h : ∀ sc, zw0 sc d mc ms (mth k).2.2.2.2.1 P (KJ sc d mc ms (mth k) P Q) Q n 0 (zE (mth k).2.2.2.1 args) [] m 0 0) : Cc d mc ms k args m Q :=
  Cc_of hk hlen fun sc => by
    have := J_w (L := zE (mth k).2.2.2.1 args) (S := []) (m := m) (c := 0) (s := 0) hP (i := 0) (by omega) n (h sc)
    rw [h0] at this
    exact this
theorem t_holds {d a b : Nat} {m : Mm} {Q : Option Value → Mm → Prop} {g t s h : Int32} (h1 : oS m a 1) (hb : va_rf (mR m a 10) = .ref b) (h2 : oS m b 100) (h3 : (mS m b).2 = 180) (hin : vp_in ((g * nI 6 + t) * nI 5 + s) 180)
   (hq1 : (mI m b ((g * nI 6 + t) * nI 5 + s).toNatClampNeg >>> (h &&& 31)) &&& nI 1 = nI 1 → Q (some (.int (nI 1))) m) (hq0 : ¬ (mI m b ((g * nI 6 + t) * nI 5 + s).toNatClampNeg >>> (h &&& 31)) &&& nI 1 = nI 1 → Q (some (.int (nI 0))) m) : Cc d 0 0 31 [.ref a, .int g, .int t, .int s, .int h] m Q := by
  refine ent (n := 40) z31 (by decide) rfl (by decide) (Nat.le_of_ble_eq_true rfl) (fun sc => ?_)
  refine And.intro h1 (Exists.intro _ (And.intro hb ?_))
  refine And.intro (And.intro h2 (by rw [h3]; exact hin)) ?_
  refine And.intro (fun c1 => ?_) (fun c1 => ?_)
  · refine And.intro ⟨rfl, Or.inl rfl, Nat.le_refl _, Nat.le_refl _⟩ (hq0 c1)
  · refine And.intro ⟨rfl, Or.inr rfl, Nat.le_refl _, Nat.le_refl _⟩ (hq1 c1)
