theorem tb_in : ∀ (t : Nat) (w : Cond), w ∈ tb t → w ∈ lw_tbl
  | 0, _, h => List.mem_append_left _ h
  | 1, _, h => List.mem_append_right _ (List.mem_append_left _ h)
  | 2, _, h => List.mem_append_right _ (List.mem_append_right _ (List.mem_append_left _ h))
  | 3, _, h => List.mem_append_right _ (List.mem_append_right _ (List.mem_append_right _ (List.mem_append_left _ h)))
  | 4, _, h => List.mem_append_right _ (List.mem_append_right _ (List.mem_append_right _ (List.mem_append_right _ (List.mem_append_left _ h))))
  | 5, _, h => List.mem_append_right _ (List.mem_append_right _ (List.mem_append_right _ (List.mem_append_right _ (List.mem_append_right _ (List.mem_append_left _ h)))))
  | 6, _, h => List.mem_append_right _ (List.mem_append_right _ (List.mem_append_right _ (List.mem_append_right _ (List.mem_append_right _ (List.mem_append_right _ (List.mem_append_left _ h))))))
  | 7, _, h => List.mem_append_right _ (List.mem_append_right _ (List.mem_append_right _ (List.mem_append_right _ (List.mem_append_right _ (List.mem_append_right _ (List.mem_append_right _ (List.mem_append_left _ h)))))))
  | 8, _, h => List.mem_append_right _ (List.mem_append_right _ (List.mem_append_right _ (List.mem_append_right _ (List.mem_append_right _ (List.mem_append_right _ (List.mem_append_right _ (List.mem_append_right _ (List.mem_append_left _ h))))))))
  | 9, _, h => List.mem_append_right _ (List.mem_append_right _ (List.mem_append_right _ (List.mem_append_right _ (List.mem_append_right _ (List.mem_append_right _ (List.mem_append_right _ (List.mem_append_right _ (List.mem_append_right _ (List.mem_append_left _ h)))))))))
  | 10, _, h => List.mem_append_right _ (List.mem_append_right _ (List.mem_append_right _ (List.mem_append_right _ (List.mem_append_right _ (List.mem_append_right _ (List.mem_append_right _ (List.mem_append_right _ (List.mem_append_right _ (List.mem_append_right _ (h))))))))))
  | n + 11, _, h => by
    have e : tb (n + 11) = [] := rfl
    rw [e] at h
    cases h
theorem ps_in (ws : List Cond) (ps : List (Nat × Nat)) (h : ws.map some = ps.map (fun q => (tb q.1)[q.2]?)) (hg : ws.all goodWord = true) : ∀ w ∈ ws, w ∈ BIG := by
  intro w hw
  have h1 : some w ∈ ps.map (fun q => (tb q.1)[q.2]?) := by rw [← h]; exact List.mem_map_of_mem hw
  obtain ⟨q, -, hq⟩ := List.mem_map.mp h1
  exact List.mem_filter.mpr ⟨tb_in q.1 w (List.mem_of_getElem? hq), List.all_eq_true.mp hg w hw⟩
theorem BIG_good : ∀ w ∈ BIG, w ∈ lw_tbl ∧ ((w.onTables && w.keeps) = true ∨ ∃ ty, w = .arrayClass ty) := fun w h => ⟨(List.mem_filter.mp h).1, good_of_word (List.mem_filter.mp h).2⟩
def fty (t k : Nat) : FieldType := ([tyX0, tyX1, tyX3, tyX4, tyX5, tyX6, tyX7, tyX8, tyX9, tyX10, tyX11, tyX12].getD t (fun _ => .int)) k
def kdOk (k : Nat) (ty : FieldType) : Bool := match k, ty with
  | 0, .int => true
  | 1, .long => true
  | 2, .object _ => true
  | 2, .array _ => true
  | 3, .boolean => true
  | _, _ => false
theorem inX0 : ∀ w ∈ u_ws RX0 TX0 12, w ∈ BIG := ps_in _ [(2, 67), (2, 69), (2, 71), (2, 73), (2, 75), (2, 77), (2, 79), (2, 81), (2, 83), (2, 85), (2, 87), (2, 89)] rfl rfl
theorem inX1 : ∀ w ∈ u_ws RX1 TX1 19, w ∈ BIG := ps_in _ [(1, 130), (1, 132), (1, 134), (1, 136), (1, 138), (1, 140), (1, 142), (1, 144), (1, 146), (1, 148), (1, 150), (1, 152), (1, 154), (1, 156), (1, 158), (1, 160), (1, 162), (1, 164), (1, 166)] rfl rfl
theorem inX3 : ∀ w ∈ u_ws RX3 TX3 5, w ∈ BIG := ps_in _ [(1, 187), (1, 189), (1, 191), (1, 193), (1, 195)] rfl rfl
theorem inX4 : ∀ w ∈ u_ws RX4 TX4 9, w ∈ BIG := ps_in _ [(2, 23), (2, 25), (2, 27), (2, 29), (2, 31), (2, 33), (2, 35), (2, 37), (2, 39)] rfl rfl
theorem inX5 : ∀ w ∈ u_ws RX5 TX5 2, w ∈ BIG := ps_in _ [(2, 146), (2, 148)] rfl rfl
theorem inX6 : ∀ w ∈ u_ws RX6 TX6 5, w ∈ BIG := ps_in _ [(2, 125), (2, 127), (2, 129), (2, 131), (2, 133)] rfl rfl
theorem inX7 : ∀ w ∈ u_ws RX7 TX7 5, w ∈ BIG := ps_in _ [(1, 60), (1, 62), (1, 64), (1, 66), (1, 68)] rfl rfl
theorem inX8 : ∀ w ∈ u_ws RX8 TX8 10, w ∈ BIG := ps_in _ [(1, 227), (1, 229), (1, 231), (1, 233), (1, 235), (1, 237), (1, 239), (2, 1), (2, 3), (2, 5)] rfl rfl
theorem inX9 : ∀ w ∈ u_ws RX9 TX9 4, w ∈ BIG := ps_in _ [(2, 102), (2, 104), (2, 106), (2, 108)] rfl rfl
theorem inX10 : ∀ w ∈ u_ws RX10 TX10 13, w ∈ BIG := ps_in _ [(2, 164), (2, 166), (2, 168), (2, 170), (2, 172), (2, 174), (2, 176), (2, 178), (2, 180), (2, 182), (2, 184), (2, 186), (2, 188)] rfl rfl
theorem inX11 : ∀ w ∈ u_ws RX11 TX11 45, w ∈ BIG := ps_in _ [(7, 126), (7, 128), (7, 130), (7, 132), (7, 134), (7, 136), (7, 138), (7, 140), (7, 142), (7, 144), (7, 146), (7, 148), (7, 150), (7, 152), (7, 154), (7, 156), (7, 158), (7, 160), (7, 162), (7, 164), (7, 166), (7, 168), (7, 170), (7, 172), (7, 174), (7, 176), (7, 178), (7, 180), (7, 182), (7, 184), (7, 186), (7, 188), (7, 190), (7, 192), (7, 194), (7, 196), (7, 198), (7, 200), (7, 202), (7, 204), (7, 206), (7, 208), (7, 210), (7, 212), (7, 214)] rfl rfl
theorem inX12 : ∀ w ∈ u_ws RX12 TX12 35, w ∈ BIG := ps_in _ [(6, 198), (6, 200), (6, 202), (6, 204), (6, 206), (6, 208), (6, 210), (6, 212), (6, 214), (6, 216), (6, 218), (6, 220), (6, 222), (6, 224), (6, 226), (6, 228), (6, 230), (6, 232), (6, 234), (6, 236), (6, 238), (7, 0), (7, 2), (7, 4), (7, 6), (7, 8), (7, 10), (7, 12), (7, 14), (7, 16), (7, 18), (7, 20), (7, 22), (7, 24), (7, 26)] rfl rfl
def clOk (t : Nat) (r : vw_C) : Prop := (∀ w ∈ u_ws r.1 r.2.1 r.2.2, w ∈ BIG) ∧ (∀ k, k < r.2.2 → parseFieldDescriptor (r.2.1 k).2.2.1 = some (fty t k)) ∧ (∀ a, a < r.2.2 → ∀ b, b < r.2.2 → a ≠ b → (r.2.1 a).2.1 ≠ (r.2.1 b).2.1) ∧ ∀ k, k < r.2.2 → kdOk (kd t k) (fty t k) = true
theorem clF : ∀ (t : Nat) (r : vw_C), vwCl[t]? = some r → clOk t r
  | 0, _, h => by cases h; exact ⟨inX0, tyX0_ok, nmX0, by decide +kernel⟩
  | 1, _, h => by cases h; exact ⟨inX1, tyX1_ok, nmX1, by decide +kernel⟩
  | 2, _, h => by cases h; exact ⟨inX3, tyX3_ok, nmX3, by decide +kernel⟩
  | 3, _, h => by cases h; exact ⟨inX4, tyX4_ok, nmX4, by decide +kernel⟩
  | 4, _, h => by cases h; exact ⟨inX5, tyX5_ok, nmX5, by decide +kernel⟩
  | 5, _, h => by cases h; exact ⟨inX6, tyX6_ok, nmX6, by decide +kernel⟩
  | 6, _, h => by cases h; exact ⟨inX7, tyX7_ok, nmX7, by decide +kernel⟩
  | 7, _, h => by cases h; exact ⟨inX8, tyX8_ok, nmX8, by decide +kernel⟩
  | 8, _, h => by cases h; exact ⟨inX9, tyX9_ok, nmX9, by decide +kernel⟩
  | 9, _, h => by cases h; exact ⟨inX10, tyX10_ok, nmX10, by decide +kernel⟩
  | 10, _, h => by cases h; exact ⟨inX11, tyX11_ok, nmX11, by decide +kernel⟩
  | 11, _, h => by cases h; exact ⟨inX12, tyX12_ok, nmX12, by decide +kernel⟩
  | n + 12, _, h => by simp [vwCl] at h
/-! the heap behind a memory -/
theorem ro_lo {E : En} {m : Mm} {U : State} {H : Heap} {a t : Nat} (h : Hp E m U H) (ho : oS m a t) : ro E a = eB E + a := if_pos (Nat.lt_of_lt_of_le ho.1 h.2.1)
theorem rv_rf (E : En) (x : Option Nat) : rv E (va_rf x) = va_rf (x.map (ro E)) := by cases x <;> rfl
theorem Hp_obj {E : En} {m : Mm} {U : State} {H : Heap} {a t : Nat} (h : Hp E m U H) (ho : oS m a t) (ht : t < 50) : zOb E m H t (mS m a).2 a := by
  have z := h.2.2 a ho.1
  unfold zc at z
  rw [ho.2, if_pos ht] at z
  exact z
theorem zc_kept {E : En} {m m' : Mm} {U : State} {H H' : Heap} {b : Nat} (hi : mI m' b = mI m b) (hj : mJ m' b = mJ m b) (hr : mR m' b = mR m b) (hs : mS m' b = mS m b) (hH : H'[eB E + b]? = H[eB E + b]?) (h : zc E m U H b) : zc E m' U H' b := by
  have ef : ∀ t, fv E m' t b = fv E m t b := fun t => by funext j; simp only [fv, hi, hj, hr]
  unfold zc at h ⊢
  rw [hs]
  split at h
  · rename_i hc
    rw [if_pos hc]
    obtain ⟨r, h1, h2, h3⟩ := h
    exact ⟨r, h1, h2, by rw [ef]; exact h3.kept hH⟩
  · rename_i hc
    rw [if_neg hc]
    rw [hi, hj, hr]
    simp only [zA] at h ⊢
    rw [hH]
    exact h
theorem zc_moved {E : En} {m : Mm} {U V : State} {H : Heap} {b : Nat} (hv : U.vm.Alike V.vm) (h : zc E m U H b) : zc E m V H b := by
  have hA : ∀ ty q n f, zA U H ty q n f → zA V H ty q n f := fun ty q n f ⟨cA, ⟨h1, h2⟩, h3⟩ => ⟨cA, ⟨arrOfT_moved hv h1, h2.moved hv⟩, h3⟩
  unfold zc at h ⊢
  split
  · rename_i hc
    rw [if_pos hc] at h
    exact h
  · rename_i hc
    rw [if_neg hc] at h
    split
    · rename_i hc; rw [if_pos hc] at h; exact hA _ _ _ _ h
    rename_i hc; rw [if_neg hc] at h
    split
    · rename_i hc; rw [if_pos hc] at h; exact hA _ _ _ _ h
    rename_i hc; rw [if_neg hc] at h
    split
    · rename_i hc; rw [if_pos hc] at h; exact hA _ _ _ _ h
    rename_i hc; rw [if_neg hc] at h
    split
    · rename_i hc; rw [if_pos hc] at h; exact hA _ _ _ _ h
    rename_i hc; rw [if_neg hc] at h
    split
    · rename_i hc; rw [if_pos hc] at h; exact hA _ _ _ _ h
    · trivial
theorem Hp_moved {E : En} {m : Mm} {U V : State} {H : Heap} (hv : U.vm.Alike V.vm) (h : Hp E m U H) : Hp E m V H := ⟨h.1, h.2.1, fun a ha => zc_moved hv (h.2.2 a ha)⟩
theorem Hp_upd {E : En} {m m' : Mm} {U : State} {H H' : Heap} {a : Nat} (h : Hp E m U H) (hz : mZ m' = mZ m) (hr : ∀ b, b ≠ a → mI m' b = mI m b ∧ mJ m' b = mJ m b ∧ mR m' b = mR m b ∧ mS m' b = mS m b) (e2 : H'.size = H.size) (e3 : ∀ q, q ≠ eB E + a → H'[q]? = H[q]?) (hc : a < mZ m → zc E m' U H' a) : Hp E m' U H' := by
  refine ⟨by rw [e2, hz]; exact h.1, by rw [hz]; exact h.2.1, fun b hb => ?_⟩
  rw [hz] at hb
  by_cases hab : b = a
  · subst hab
    exact hc hb
  · obtain ⟨r1, r2, r3, r4⟩ := hr b hab
    exact zc_kept r1 r2 r3 r4 (e3 _ (by omega)) (h.2.2 b hb)
theorem up_ne {α : Type} {f : Nat → α} {k j : Nat} {v : α} (h : j ≠ k) : va_up f k v j = f j := if_neg h
theorem up_eq {α : Type} {f : Nat → α} {k : Nat} {v : α} : va_up f k v k = v := if_pos rfl
theorem uI_ne {m : Mm} {a k b : Nat} {x : Int32} (h : b ≠ a) : mI (uI m a k x) b = mI m b := up_ne h
theorem uI_eq {m : Mm} {a k : Nat} {x : Int32} : mI (uI m a k x) a = upd (mI m a) k x := up_eq
theorem uJ_ne {m : Mm} {a k b : Nat} {x : Int64} (h : b ≠ a) : mJ (uJ m a k x) b = mJ m b := up_ne h
theorem uJ_eq {m : Mm} {a k : Nat} {x : Int64} : mJ (uJ m a k x) a = vp_updL (mJ m a) k x := up_eq
theorem uR_ne {m : Mm} {a k b : Nat} {x : Option Nat} (h : b ≠ a) : mR (uR m a k x) b = mR m b := up_ne h
theorem uR_eq {m : Mm} {a k : Nat} {x : Option Nat} : mR (uR m a k x) a = va_up (mR m a) k x := up_eq
theorem rI_ne {m : Mm} {a b : Nat} {f : Nat → Int32} (h : b ≠ a) : mI (rI m a f) b = mI m b := up_ne h
theorem rI_eq {m : Mm} {a : Nat} {f : Nat → Int32} : mI (rI m a f) a = f := up_eq
section Z5
variable {sc : Nat × (Nat → Int32)} {d mc ms : Nat} {X : MT} {pc : Nat} {L : List (Option Value)} {S : List Value} {m : Mm} {c s : Nat} {Q : Option Value → Mm → Prop}
/-- a field's link: an ordinary one, or within a nest -/
def fLink (own : String) (index : Nat) (f : String × String × String × Bool) : Prop := Cond.fieldLink own index f.1 f.2.1 f.2.2.1 ∈ BIG ∨ ∃ host, Cond.fieldLinkNest own index f.1 f.2.1 f.2.2.1 host ∈ tables_1
set_option maxHeartbeats 1000000 in
theorem js_get {t a k index : Nat} {r : vw_C} {v : Value} (hc : vwCl[t]? = some r) (ht : t < 50) (hk : k < r.2.2) (hlink : fLink X.1 index (r.2.1 k)) (hd : decode X.2.2.1 pc = .ok (.getfield index, 3)) (ho : oS m a t) (hv : ∀ E, fv E m t a k = rv E v) (h : Jj sc d mc ms X (pc + 3) L (v :: S) m c s Q) : Jj sc d mc ms X pc L (.ref a :: S) m c s Q := by
  intro E p e R st mid args below meth cd H locs ls hC hP hS hl
  obtain ⟨hx, hb, hml, hr, hown, hts, hlk, hnm, hT, hB, hR, hsc⟩ := id hC
  obtain ⟨r', h1, -, cell, q1, q2, q3, q4⟩ := Hp_obj hP ho ht
  cases hc.symm.trans h1
  obtain ⟨hin, hty, hnn, hkk⟩ := clF t r hc
  obtain ⟨hSl, hfc, kC, hkC, hkind⟩ := hT.1.1 t _ hc
  obtain ⟨cf, kf, fi, f, hi, hsl⟩ := hSl k hk
  have hst := (u_facts hfc hkC (u_lays hts hin hk) hi).1
  have hkk := h E p e R st mid args below meth cd H locs ls hC hP hS hl
  show W _ _ _ _ _ _ _ _ _ _ _ _ _ _ _ (F0 mid pc ls (.ref (ro E a) :: S.map (rv E)))
  rw [ro_lo hP ho]
  rcases hlink with hl1 | ⟨host, hl1⟩
  · exact W.getf hx hb hown (hts _ hl1) hi hst q1 (by rw [q3]; exact fun h => by cases h) (v := rv E v) (by rw [hsl, q4 k hk, hv]) rfl rfl hd hkk
  · exact va_Wgetf hx hb hown (va_Nw.use rfl (hT.2.2.2.2.2.2.2.1 _ _ _ _ _ _ hl1)) hi hst q1 (by rw [q3]; exact fun h => by cases h) (v := rv E v) (by rw [hsl, q4 k hk, hv]) rfl rfl hd hkk
set_option maxHeartbeats 1000000 in
theorem js_put {t a k index : Nat} {r : vw_C} {v : Value} {m' : Mm} (hc : vwCl[t]? = some r) (ht : t < 50) (hk : k < r.2.2) (hlink : fLink X.1 index (r.2.1 k)) (hfin : (r.2.1 k).2.2.2 = false ∨ ((r.2.1 k).2.2.2 = true ∧ X.2.1.name = "<init>" ∧ (r.2.1 k).1 = X.1 ∧ Cond.fieldLink X.1 index (r.2.1 k).1 (r.2.1 k).2.1 (r.2.1 k).2.2.1 ∈ BIG)) (hd : decode X.2.2.1 pc = .ok (.putfield index, 3)) (ho : oS m a t)
    (hn : ∀ E, narrow (fty t k) (rv E v) = rv E v) (hf : ∀ E, fits (fty t k) (rv E v) = true) (hv : ∀ E, fv E m' t a = updV (fv E m t a) k (rv E v)) (hz : mZ m' = mZ m) (hs : mS m' = mS m) (hr : ∀ b, b ≠ a → mI m' b = mI m b ∧ mJ m' b = mJ m b ∧ mR m' b = mR m b) (h : Jj sc d mc ms X (pc + 3) L S m' c s Q) : Jj sc d mc ms X pc L (v :: .ref a :: S) m c s Q := by
  intro E p e R st mid args below meth cd H locs ls hC hP hS hl
  obtain ⟨hx, hb, hml, hrt, hown, hts, hlk, hnm, hT, hB, hR, hsc⟩ := id hC
  obtain ⟨r', h1, hN, cell, q1, q2, q3, q4⟩ := Hp_obj hP ho ht
  cases hc.symm.trans h1
  obtain ⟨hin, hty, hnn, hkk⟩ := clF t r hc
  have hap := va_apart (own := X.1) hts hin (fty t) hty hnn hT.1 hc
  obtain ⟨hSl, hfc, kC, hkC, hkind⟩ := hT.1.1 t _ hc
  obtain ⟨cf, kf, fi, f, hi, hsl⟩ := hSl k hk
  have hlays := u_lays hts hin hk
  have hst := (u_facts hfc hkC hlays hi).1
  have h6 := u_fits hfc hkC hkind hlays hi (hty k hk) (hn E) (hf E)
  have hA : eA E (eB E + a) := Nat.le_add_right _ _
  have kk : ∀ H' : Heap, H'[eB E + a]? = some (cell.setSlot f.slot (rv E v)) → H'.size = H.size → (∀ q, q ≠ eB E + a → H'[q]? = H[q]?) → W p (eL E) e R st mid args below meth cd H' (locs ++ [⟨eB E + a, f.slot⟩]) c s (MQ below (QC E Q) args st mc ms (eA E)) (F0 mid (pc + 3) ls (S.map (rv E))) := by
    intro H' e1 e2 e3
    refine h E p e R st mid args below meth cd H' _ ls hC (Hp_upd hP hz (fun b hb => ⟨(hr b hb).1, (hr b hb).2.1, (hr b hb).2.2, by rw [hs]⟩) e2 e3 fun _ => ?_) (hS.put e2 e3 hA) hl
    unfold zc
    rw [hs, ho.2, if_pos ht]
    refine ⟨r, hc, hN, ?_⟩
    rw [hv]
    rw [hsl] at e1
    exact ⟨_, e1, q2, q3, t_set q4 hap hk _⟩
  show W _ _ _ _ _ _ _ _ _ _ _ _ _ _ _ (F0 mid pc ls (rv E v :: .ref (ro E a) :: S.map (rv E)))
  rw [ro_lo hP ho]
  rcases hfin with hf0 | ⟨hf1, hini, hdecl, hl1⟩
  · have hlay := hts _ (hin _ (u_in_lay hk))
    unfold u_lay at hlay
    rw [if_neg (by rw [hf0]; decide)] at hlay
    have h7 := u_store hfc hkC hkind hlay hi (hty k hk) (hn E) (hf E)
    rcases hlink with hl1 | ⟨host, hl1⟩
    · exact W.putK hx hb (f := f) ⟨hown, hts _ hl1, ⟨_, _, _, hi⟩, hst⟩ (by rw [q2]; exact h7) q1 q3 (by rw [hsl]; exact k2_hasslot (q4 k hk)) rfl rfl hd kk
    · exact va_WputK hx hb (f := f) hown (va_Nw.use rfl (hT.2.2.2.2.2.2.2.1 _ _ _ _ _ _ hl1)) hi hst (by rw [q2]; exact h7) q1 q3 (by rw [hsl]; exact k2_hasslot (q4 k hk)) rfl rfl hd kk
  · have hlay := hts _ (hin _ (u_in_lay hk))
    unfold u_lay at hlay
    rw [if_pos hf1] at hlay
    have hcf : mid.cls = cf := by
      obtain ⟨_, _, c', _, _, _, -, -, hf', -, -, -, hown2, -⟩ := Cond.laysFinal_spec hlay
      have e1 : c' = cf := by have := hi.symm.trans hf'; simp at this; exact this.1.symm
      rw [hdecl] at hown2
      rw [← e1]; exact Option.some.inj (hown.symm.trans hown2)
    exact W.putFinK hx hb hown (hts _ hl1) hi hst hcf (by rw [hnm]; exact hini) (by rw [q2]; exact h6) q1 q3 (by rw [hsl]; exact k2_hasslot (q4 k hk)) rfl rfl hd kk
end Z5
