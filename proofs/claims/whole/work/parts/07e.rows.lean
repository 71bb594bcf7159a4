-- rows of the machine over the world: fields, arrays, statics, calls
theorem jm_okw {k r : Nat} (h : jm_okr (k, r)) (h5 : (jm_sh k).1 ≠ 5) : k < 33 ∧ r < jm_nr k := by
  rcases h with h | ⟨h1, h2, -⟩
  · exact h
  · have : ∀ k, k < 45 → 40 ≤ k → (jm_sh k).1 = 5 := by decide
    exact absurd (this k h2 h1) h5
theorem jm_ce0 {α : Nat → Nat → Nat} {cy : jm_C} {σ : jm_S} {k r ci : Nat} (h : jm_sh k = (0, ci)) : jm_ce α cy σ k r = .inr (ci, (List.range (jm_nf ci)).map fun j => match jm_rf k r j with
    | some q => .ref (α q.1 q.2)
    | none => .int (σ.1 k r j)) := by
  unfold jm_ce
  rw [h]
  rfl
theorem jm_ce1 {α : Nat → Nat → Nat} {cy : jm_C} {σ : jm_S} {k r n : Nat} (h : jm_sh k = (1, n)) : jm_ce α cy σ k r = .inl (cy.1, n, .inl (σ.1 k r)) := by
  unfold jm_ce
  rw [h]
  rfl
theorem jm_ce2 {α : Nat → Nat → Nat} {cy : jm_C} {σ : jm_S} {k r n : Nat} (h : jm_sh k = (2, n)) : jm_ce α cy σ k r = .inl (cy.2.1, n, .inr (.inl (σ.2 k r))) := by
  unfold jm_ce
  rw [h]
  rfl
theorem jm_ce3 {α : Nat → Nat → Nat} {cy : jm_C} {σ : jm_S} {k r n : Nat} (h : jm_sh k = (3, n)) : jm_ce α cy σ k r = .inl (cy.2.2.1, n, .inl (σ.1 k r)) := by
  unfold jm_ce
  rw [h]
  rfl
theorem jm_ce4 {α : Nat → Nat → Nat} {cy : jm_C} {σ : jm_S} {k r n : Nat} (h : jm_sh k = (4, n)) : jm_ce α cy σ k r = .inl (cy.2.2.2, n, .inr (.inr (.inr (.inr fun i => if i < n then some (α (jm_ra k r i).1 (jm_ra k r i).2) else none)))) := by
  unfold jm_ce
  rw [h]
  rfl
theorem jm_wr_at {σ : jm_S} {k r : Nat} {f : Nat → Int32} : (jm_wr σ k r f).1 k r = f := by simp [jm_wr]
theorem jm_wr_ne {σ : jm_S} {k r k' r' : Nat} {f : Nat → Int32} (h : ¬ (k' = k ∧ r' = r)) : (jm_wr σ k r f).1 k' r' = σ.1 k' r' := by simp [jm_wr, h]
theorem jm_wl_at {σ : jm_S} {k r : Nat} {f : Nat → Int64} : (jm_wl σ k r f).2 k r = f := by simp [jm_wl]
theorem jm_wl_ne {σ : jm_S} {k r k' r' : Nat} {f : Nat → Int64} (h : ¬ (k' = k ∧ r' = r)) : (jm_wl σ k r f).2 k' r' = σ.2 k' r' := by simp [jm_wl, h]
theorem jm_set_r {α : Nat → Nat → Nat} {cy : jm_C} {σ : jm_S} {k r : Nat} {f : Nat → Int32} (hk : k < 33) (hr : r < jm_nr k) : (jm_wd α cy σ).set (jm_bs k + r) (α k r, jm_ce α cy (jm_wr σ k r f) k r) = jm_wd α cy (jm_wr σ k r f) :=
  jm_wd_set hk hr (fun _ _ h => jm_wr_ne h) (fun _ _ _ => rfl)
theorem jm_set_l {α : Nat → Nat → Nat} {cy : jm_C} {σ : jm_S} {k r : Nat} {f : Nat → Int64} (hk : k < 33) (hr : r < jm_nr k) : (jm_wd α cy σ).set (jm_bs k + r) (α k r, jm_ce α cy (jm_wl σ k r f) k r) = jm_wd α cy (jm_wl σ k r f) :=
  jm_wd_set hk hr (fun _ _ _ => rfl) (fun _ _ h => jm_wl_ne h)
theorem jm_in_of {i : Int32} {n : Nat} (h : jm_in3 i n = true) : vp_in i n := by
  have h9 := of_decide_eq_true (show decide (¬ (i < 0 ∨ n ≤ i.toNatClampNeg)) = true from h)
  exact h9
section JR
variable {l : Launch} {α : Nat → Nat → Nat} {cy : jm_C} {D : va_G} {M : jm_M} {cc : ByteArray} {ret : Option FieldType} {R : Room} {Q : State → Prop}
  {p : Program} {e : Env} {s : State} {m : MethodId} {args : Array Value} {below : List Frame} {meth : Method} {c : Code} {A : Nat → Prop} {H : Heap} {locs : List Loc} {ls : Array Slot} {rest : List Value} {σ : jm_S} {pc ix : Nat} {cells slots : Nat}
theorem jm_rget (X : jm_X α cy D A M cc ret p s m args meth c) (hH : jm_H α cy D A s σ H locs) {k r ci j z : Nat} (hlk : jm_lk2 jm_flL M.1 ix = some (ci, j, z)) (hok : jm_okr (k, r)) (hsh : jm_sh k = (0, ci)) (hd : decode cc pc = .ok (.getfield ix, 3)) {v : Value} (hv : (match jm_rf k r j with
    | some q => Value.ref (α q.1 q.2)
    | none => .int (σ.1 k r j)) = v)
    (kk : W p l e R s m args below meth c H locs cells slots Q (F0 m (pc + 3) ls (v :: rest))) : W p l e R s m args below meth c H locs cells slots Q (F0 m pc ls (.ref (α k r) :: rest)) := by
  obtain ⟨hx, hb, hml, hown, hts, hN, hK, hZ, hA, hr, hlocks⟩ := X
  obtain ⟨hP, hD, hS⟩ := hH
  obtain ⟨h1, h2⟩ := jm_okw hok (by rw [hsh]; intro h9; cases h9)
  obtain ⟨C, T, N, ty0, hc, hnf, hj, hin, -, -, hlink, -, -⟩ := jm_flk _ (jm_lk2_mem hlk)
  dsimp only at hc hnf hj hlink
  have he := jm_wd_at (α := α) (cy := cy) (σ := σ) h1 h2
  rw [jm_ce0 hsh] at he
  have hfs : ((List.range (jm_nf ci)).map fun j => match jm_rf k r j with
      | some q => Value.ref (α q.1 q.2)
      | none => .int (σ.1 k r j))[j]? = some v := by
    rw [List.getElem?_map, List.getElem?_range (by rw [hnf]; exact hj), ← hv]
    rfl
  rcases hlink with hlink | ⟨host, hlink⟩
  · exact va_get hx hb hts (jm_good_lay hin) hown hK hP _ he hc j hj (hts _ (jm_tgd_mem hlink rfl)) (fun _ h => h) hfs hd kk
  · exact va_getN hx hb hts (jm_good_lay hin) hown hK hP _ he hc j hj (va_Nw.use rfl (hN _ hlink rfl)) (fun _ h => h) hfs hd kk
theorem jm_rput (X : jm_X α cy D A M cc ret p s m args meth c) (hH : jm_H α cy D A s σ H locs) {k r ci j z : Nat} {x : Int32} (hlk : jm_lk2 jm_flL M.1 ix = some (ci, j, z)) (hok : jm_okr (k, r)) (hsh : jm_sh k = (0, ci)) (hrf : jm_rf k r j = none) (hz : z = 0 ∨ (z = 1 ∧ (x = 0 ∨ x = 1))) (hd : decode cc pc = .ok (.putfield ix, 3))
    (kk : ∀ (H1 : Heap) (locs1 : List Loc), jm_H α cy D A s (jm_wi σ k r j x) H1 locs1 → W p l e R s m args below meth c H1 locs1 cells slots Q (F0 m (pc + 3) ls rest)) : W p l e R s m args below meth c H locs cells slots Q (F0 m pc ls (.int x :: .ref (α k r) :: rest)) := by
  obtain ⟨hx, hb, hml, hown, hts, hN, hK, hZ, hA, hr, hlocks⟩ := X
  obtain ⟨hP, hD, hS⟩ := hH
  obtain ⟨h1, h2⟩ := jm_okw hok (by rw [hsh]; intro h9; cases h9)
  obtain ⟨C, T, N, ty0, hc, hnf, hj, hin, hty, hnm, hlink, hz0, hz1⟩ := jm_flk _ (jm_lk2_mem hlk)
  dsimp only at hc hnf hj hlink hz0 hz1
  have he := jm_wd_at (α := α) (cy := cy) (σ := σ) h1 h2
  rw [jm_ce0 hsh] at he
  obtain ⟨ty, hfin, hpd, hnar, hfit⟩ : ∃ ty : FieldType, (T j).2.2.2 = false ∧ parseFieldDescriptor (T j).2.2.1 = some ty ∧ narrow ty (.int x) = .int x ∧ fits ty (.int x) = true := by
    rcases hz with hz | ⟨hz, hx01⟩
    · obtain ⟨a, b⟩ := hz0 hz
      exact ⟨.int, a, b, rfl, rfl⟩
    · obtain ⟨a, b⟩ := hz1 hz
      refine ⟨.boolean, a, b, ?_, ?_⟩ <;> rcases hx01 with rfl | rfl <;> decide
  have hset : ((List.range (jm_nf ci)).map fun j => match jm_rf k r j with
      | some q => Value.ref (α q.1 q.2)
      | none => .int (σ.1 k r j)).set j (.int x) = (List.range (jm_nf ci)).map fun i => match jm_rf k r i with
      | some q => Value.ref (α q.1 q.2)
      | none => .int ((jm_wi σ k r j x).1 k r i) := by
    apply List.ext_getElem?
    intro i
    rw [List.getElem?_set]
    by_cases hi : j = i
    · subst hi
      rw [if_pos rfl, if_pos (by simp [hnf, hj]), List.getElem?_map, List.getElem?_range (by rw [hnf]; exact hj)]
      simp [hrf, jm_wi, jm_wr_at, upd]
    · rw [if_neg hi, List.getElem?_map, List.getElem?_map]
      by_cases hlt : i < jm_nf ci
      · rw [List.getElem?_range hlt]
        have hi' : ¬ i = j := fun q => hi q.symm
        simp [jm_wi, jm_wr_at, upd, hi']
      · rw [List.getElem?_eq_none (by simp; omega)]
        rfl
  have hw : (jm_wd α cy σ).set (jm_bs k + r) (α k r, .inr (ci, ((List.range (jm_nf ci)).map fun j => match jm_rf k r j with
      | some q => Value.ref (α q.1 q.2)
      | none => .int (σ.1 k r j)).set j (.int x))) = jm_wd α cy (jm_wi σ k r j x) := by
    rw [hset]
    have := jm_set_r (α := α) (cy := cy) (σ := σ) (f := upd (σ.1 k r) j x) h1 h2
    rw [jm_ce0 hsh] at this
    exact this
  have hl : j < ((List.range (jm_nf ci)).map fun j => match jm_rf k r j with
      | some q => Value.ref (α q.1 q.2)
      | none => .int (σ.1 k r j)).length := by simp [hnf, hj]
  rcases hlink with hlink | ⟨host, hlink⟩
  · exact va_put hx hb hts (jm_good_lay hin) ty0 hty hnm hown hK hP hD hS _ he hc j hj (hts _ (jm_tgd_mem hlink rfl)) (fun _ h => h) hfin hpd hnar hfit hl hd (fun H1 locs1 hP1 hD1 hS1 => kk H1 locs1 ⟨by rw [← hw]; exact hP1, by rw [← hw]; exact hD1, hS1⟩)
  · exact va_putN hx hb hts (jm_good_lay hin) ty0 hty hnm hown hK hP hD hS _ he hc j hj (va_Nw.use rfl (hN _ hlink rfl)) (fun _ h => h) hfin hpd hnar hfit hl hd (fun H1 locs1 hP1 hD1 hS1 => kk H1 locs1 ⟨by rw [← hw]; exact hP1, by rw [← hw]; exact hD1, hS1⟩)
theorem jm_rild (X : jm_X α cy D A M cc ret p s m args meth c) (hH : jm_H α cy D A s σ H locs) {k r n : Nat} {i : Int32} (hok : jm_okr (k, r)) (hsh : jm_sh k = (1, n)) (hi : jm_in3 i n = true) (hd : decode cc pc = .ok (.iaload, 1))
    (kk : W p l e R s m args below meth c H locs cells slots Q (F0 m (pc + 1) ls (.int (σ.1 k r i.toNatClampNeg) :: rest))) : W p l e R s m args below meth c H locs cells slots Q (F0 m pc ls (.int i :: .ref (α k r) :: rest)) := by
  obtain ⟨hx, hb, hml, hown, hts, hN, hK, hZ, hA, hr, hlocks⟩ := X
  obtain ⟨h1, h2⟩ := jm_okw hok (by rw [hsh]; intro h9; cases h9)
  have he := jm_wd_at (α := α) (cy := cy) (σ := σ) h1 h2
  rw [jm_ce1 hsh] at he
  exact va_iald hx hb hK hH.1 _ 0 he rfl (jm_in_of hi) hd kk
theorem jm_rzld (X : jm_X α cy D A M cc ret p s m args meth c) (hH : jm_H α cy D A s σ H locs) {k r n : Nat} {i : Int32} (hok : jm_okr (k, r)) (hsh : jm_sh k = (3, n)) (hi : jm_in3 i n = true) (hd : decode cc pc = .ok (.baload, 1))
    (kk : W p l e R s m args below meth c H locs cells slots Q (F0 m (pc + 1) ls (.int (σ.1 k r i.toNatClampNeg) :: rest))) : W p l e R s m args below meth c H locs cells slots Q (F0 m pc ls (.int i :: .ref (α k r) :: rest)) := by
  obtain ⟨hx, hb, hml, hown, hts, hN, hK, hZ, hA, hr, hlocks⟩ := X
  obtain ⟨h1, h2⟩ := jm_okw hok (by rw [hsh]; intro h9; cases h9)
  have he := jm_wd_at (α := α) (cy := cy) (σ := σ) h1 h2
  rw [jm_ce3 hsh] at he
  exact va_zald hx hb hK hH.1 _ 2 he rfl (jm_in_of hi) hd kk
theorem jm_rlld (X : jm_X α cy D A M cc ret p s m args meth c) (hH : jm_H α cy D A s σ H locs) {k r n : Nat} {i : Int32} (hok : jm_okr (k, r)) (hsh : jm_sh k = (2, n)) (hi : jm_in3 i n = true) (hd : decode cc pc = .ok (.laload, 1))
    (kk : W p l e R s m args below meth c H locs cells slots Q (F0 m (pc + 1) ls (.long (σ.2 k r i.toNatClampNeg) :: rest))) : W p l e R s m args below meth c H locs cells slots Q (F0 m pc ls (.int i :: .ref (α k r) :: rest)) := by
  obtain ⟨hx, hb, hml, hown, hts, hN, hK, hZ, hA, hr, hlocks⟩ := X
  obtain ⟨h1, h2⟩ := jm_okw hok (by rw [hsh]; intro h9; cases h9)
  have he := jm_wd_at (α := α) (cy := cy) (σ := σ) h1 h2
  rw [jm_ce2 hsh] at he
  exact va_lald hx hb hK hH.1 _ 1 he rfl (jm_in_of hi) hd kk
theorem jm_rald (X : jm_X α cy D A M cc ret p s m args meth c) (hH : jm_H α cy D A s σ H locs) {k r n : Nat} {i : Int32} (hok : jm_okr (k, r)) (hsh : jm_sh k = (4, n)) (hi : jm_in3 i n = true) (hd : decode cc pc = .ok (.aaload, 1))
    (kk : W p l e R s m args below meth c H locs cells slots Q (F0 m (pc + 1) ls (.ref (α (jm_ra k r i.toNatClampNeg).1 (jm_ra k r i.toNatClampNeg).2) :: rest))) : W p l e R s m args below meth c H locs cells slots Q (F0 m pc ls (.int i :: .ref (α k r) :: rest)) := by
  obtain ⟨hx, hb, hml, hown, hts, hN, hK, hZ, hA, hr, hlocks⟩ := X
  obtain ⟨h1, h2⟩ := jm_okw hok (by rw [hsh]; intro h9; cases h9)
  have he := jm_wd_at (α := α) (cy := cy) (σ := σ) h1 h2
  rw [jm_ce4 hsh] at he
  have hin := jm_in_of hi
  have hlt : i.toNatClampNeg < n := Nat.not_le.mp fun q => hin (Or.inr q)
  have kk' : W p l e R s m args below meth c H locs cells slots Q (F0 m (pc + 1) ls (va_rf ((fun i => if i < n then some (α (jm_ra k r i).1 (jm_ra k r i).2) else none) i.toNatClampNeg) :: rest)) := by
    dsimp only
    rw [if_pos hlt]
    exact kk
  exact W.aald (v := va_rf ((fun i => if i < n then some (α (jm_ra k r i).1 (jm_ra k r i).2) else none) i.toNatClampNeg)) (ty := .array .int) hx hb (hH.1 _ _ he) ((hK.2 3 _ rfl).1 n (fun j => va_rf ((fun i => if i < n then some (α (jm_ra k r i).1 (jm_ra k r i).2) else none) j))) rfl (fun q => by cases q) (by show ¬ (i < 0 ∨ (arrV _ _ _).slots.size ≤ _); rw [arrV_size]; exact hin) (by show (arrV _ _ _).slots[_]? = _; rw [arrV_read _ _ hlt]) rfl rfl hd kk'
theorem jm_rist (X : jm_X α cy D A M cc ret p s m args meth c) (hH : jm_H α cy D A s σ H locs) {k r n : Nat} {i x : Int32} (hok : jm_okr (k, r)) (hsh : jm_sh k = (1, n)) (hi : jm_in3 i n = true) (hd : decode cc pc = .ok (.iastore, 1))
    (kk : ∀ (H1 : Heap) (locs1 : List Loc), jm_H α cy D A s (jm_wi σ k r i.toNatClampNeg x) H1 locs1 → W p l e R s m args below meth c H1 locs1 cells slots Q (F0 m (pc + 1) ls rest)) : W p l e R s m args below meth c H locs cells slots Q (F0 m pc ls (.int x :: .int i :: .ref (α k r) :: rest)) := by
  obtain ⟨hx, hb, hml, hown, hts, hN, hK, hZ, hA, hr, hlocks⟩ := X
  obtain ⟨h1, h2⟩ := jm_okw hok (by rw [hsh]; intro h9; cases h9)
  obtain ⟨hP, hD, hS⟩ := hH
  have he := jm_wd_at (α := α) (cy := cy) (σ := σ) h1 h2
  rw [jm_ce1 hsh] at he
  have hw := jm_set_r (α := α) (cy := cy) (σ := σ) (f := upd (σ.1 k r) i.toNatClampNeg x) h1 h2
  rw [jm_ce1 hsh, jm_wr_at] at hw
  exact va_iast hx hb hK hP hD hS _ 0 he rfl (jm_in_of hi) hd (fun H1 locs1 hP1 hD1 hS1 => kk H1 locs1 ⟨by rw [hw] at hP1; exact hP1, by rw [hw] at hD1; exact hD1, hS1⟩)
theorem jm_rzst (X : jm_X α cy D A M cc ret p s m args meth c) (hH : jm_H α cy D A s σ H locs) {k r n : Nat} {i x : Int32} (hok : jm_okr (k, r)) (hsh : jm_sh k = (3, n)) (hi : jm_in3 i n = true) (hd : decode cc pc = .ok (.bastore, 1))
    (kk : ∀ (H1 : Heap) (locs1 : List Loc), jm_H α cy D A s (jm_wi σ k r i.toNatClampNeg (vp_nar .boolean x)) H1 locs1 → W p l e R s m args below meth c H1 locs1 cells slots Q (F0 m (pc + 1) ls rest)) : W p l e R s m args below meth c H locs cells slots Q (F0 m pc ls (.int x :: .int i :: .ref (α k r) :: rest)) := by
  obtain ⟨hx, hb, hml, hown, hts, hN, hK, hZ, hA, hr, hlocks⟩ := X
  obtain ⟨h1, h2⟩ := jm_okw hok (by rw [hsh]; intro h9; cases h9)
  obtain ⟨hP, hD, hS⟩ := hH
  have he := jm_wd_at (α := α) (cy := cy) (σ := σ) h1 h2
  rw [jm_ce3 hsh] at he
  have hw := jm_set_r (α := α) (cy := cy) (σ := σ) (f := upd (σ.1 k r) i.toNatClampNeg (vp_nar .boolean x)) h1 h2
  rw [jm_ce3 hsh, jm_wr_at] at hw
  exact va_zast hx hb hK hP hD hS _ 2 he rfl (jm_in_of hi) hd (fun H1 locs1 hP1 hD1 hS1 => kk H1 locs1 ⟨by rw [hw] at hP1; exact hP1, by rw [hw] at hD1; exact hD1, hS1⟩)
theorem jm_rlst (X : jm_X α cy D A M cc ret p s m args meth c) (hH : jm_H α cy D A s σ H locs) {k r n : Nat} {i : Int32} {x : Int64} (hok : jm_okr (k, r)) (hsh : jm_sh k = (2, n)) (hi : jm_in3 i n = true) (hd : decode cc pc = .ok (.lastore, 1))
    (kk : ∀ (H1 : Heap) (locs1 : List Loc), jm_H α cy D A s (jm_wj σ k r i.toNatClampNeg x) H1 locs1 → W p l e R s m args below meth c H1 locs1 cells slots Q (F0 m (pc + 1) ls rest)) : W p l e R s m args below meth c H locs cells slots Q (F0 m pc ls (.long x :: .int i :: .ref (α k r) :: rest)) := by
  obtain ⟨hx, hb, hml, hown, hts, hN, hK, hZ, hA, hr, hlocks⟩ := X
  obtain ⟨h1, h2⟩ := jm_okw hok (by rw [hsh]; intro h9; cases h9)
  obtain ⟨hP, hD, hS⟩ := hH
  have he := jm_wd_at (α := α) (cy := cy) (σ := σ) h1 h2
  rw [jm_ce2 hsh] at he
  have hw := jm_set_l (α := α) (cy := cy) (σ := σ) (f := vp_updL (σ.2 k r) i.toNatClampNeg x) h1 h2
  rw [jm_ce2 hsh, jm_wl_at] at hw
  exact va_last hx hb hK hP hD hS _ 1 he rfl (jm_in_of hi) hd (fun H1 locs1 hP1 hD1 hS1 => kk H1 locs1 ⟨by rw [hw] at hP1; exact hP1, by rw [hw] at hD1; exact hD1, hS1⟩)
theorem jm_rsld (X : jm_X α cy D A M cc ret p s m args meth c) (hH : jm_H α cy D A s σ H locs) {k n : Nat} {i : Int32} (h40 : 40 ≤ k) (h45 : k < 45) (hsh : jm_sh k = (5, n)) (hi : jm_in3 i n = true) (hd : decode cc pc = .ok (.iaload, 1))
    (kk : W p l e R s m args below meth c H locs cells slots Q (F0 m (pc + 1) ls (.int ((jm_tb k).getD i.toNatClampNeg 0) :: rest))) : W p l e R s m args below meth c H locs cells slots Q (F0 m pc ls (.int i :: .ref (α k 0) :: rest)) := by
  obtain ⟨hx, hb, hml, hown, hts, hN, hK, hZ, hA, hr, hlocks⟩ := X
  obtain ⟨k', rfl⟩ : ∃ k', k = 40 + k' := ⟨k - 40, by omega⟩
  obtain ⟨-, hT⟩ := hZ k' (by omega)
  have hn : (jm_tb (40 + k')).length = n := by
    have : ∀ k, k < 45 → 40 ≤ k → (jm_tb k).length = (jm_sh k).2 := by decide
    rw [this _ h45 h40, hsh]
  rw [hn] at hT
  exact va_ti hx hb hT hH.2.2 (jm_in_of hi) rfl hd kk
theorem jm_rgs (X : jm_X α cy D A M cc ret p s m args meth c) (hH : jm_H α cy D A s σ H locs) {k : Nat} (hlk : jm_lk2 jm_gsL M.1 ix = some k) (hd : decode cc pc = .ok (.getstatic ix, 3))
    (kk : k < 5 → W p l e R s m args below meth c H locs cells slots Q (F0 m (pc + 3) ls (.ref (α (40 + k) 0) :: rest))) : W p l e R s m args below meth c H locs cells slots Q (F0 m pc ls rest) := by
  obtain ⟨hx, hb, hml, hown, hts, hN, hK, hZ, hA, hr, hlocks⟩ := X
  obtain ⟨hk, hlink⟩ := jm_gsk _ (jm_lk2_mem hlk)
  dsimp only at hk hlink
  obtain ⟨hz, -⟩ := hZ k hk
  rcases hlink with hlink | ⟨host, hlink⟩
  · exact va_gets hx hb hz hH.2.2 hown (hts _ (jm_tgd_mem hlink rfl)) (fun _ h => h) hd (kk hk)
  · exact va_getsN hx hb hz hH.2.2 hown (va_Nw.use rfl (hN _ hlink rfl)) (fun _ h => h) hd (kk hk)
end JR
