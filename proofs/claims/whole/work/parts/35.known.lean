-- THE LAW: what is known at its start
theorem lw_over {args : Array Value} {s : State} (h : (Cond.arrayOver (.array .int)).before args s = true) : ∃ (comp c : ClassId) (k : Class), s.vm.findClass (FieldType.array .int).toString = some comp ∧ s.vm.classes[c]? = some k ∧ k.kind = .array comp (.array .int) ∧ s.vm.findClass ("[" ++ (FieldType.array .int).toString) = some c := by
  simp only [Cond.before, Cond.holds, Cond.value, beq_iff_eq, Option.bind_eq_some_iff, Option.map_eq_some_iff] at h
  obtain ⟨comp, h1, c, h2, k, h3, h4⟩ := h
  obtain ⟨hlt, hp, -⟩ := Array.findIdx?_eq_some_iff_getElem.mp h2
  have hk : s.vm.classes[c] = k := (Array.getElem?_eq_some_iff.mp h3).2
  rw [hk] at hp
  refine ⟨comp, c, k, h1, h3, ?_⟩
  cases hkd : k.kind with
  | array co ty =>
    rw [hkd] at h4 hp
    simp at h4 hp
    exact ⟨by rw [hp, h4.1], h4.2⟩
  | _ => rw [hkd] at h4; simp at h4
theorem lw_arr {args : Array Value} {s : State} (hts : ∀ w ∈ lw_tbl, w.before args s = true) : ∃ cy : jm_C, (∀ (k : Nat) (q : ClassId × FieldType), (jm_tys cy)[k]? = some q → ArrOfT s q.1 q.2 ∧ va_RA s q.1 q.2) ∧ jm_gr cy s := by
  obtain ⟨cI, kI, xI, a1, a2, a3⟩ := Cond.arrayClass_spec (hts (.arrayClass .int) (jm_in (List.mem_of_getElem? (i := 47) (by decide +kernel))))
  obtain ⟨cL, kL, xL, b1, b2, b3⟩ := Cond.arrayClass_spec (hts (.arrayClass .long) (jm_in (List.mem_of_getElem? (i := 123) (by decide +kernel))))
  obtain ⟨cZ, kZ, xZ, z1, z2, z3⟩ := Cond.arrayClass_spec (hts (.arrayClass .boolean) (jm_in (List.mem_of_getElem? (i := 668) (by decide +kernel))))
  obtain ⟨co, cA, kA, o1, o2, o3, o4⟩ := lw_over (hts (.arrayOver (.array .int)) (jm_in (List.mem_of_getElem? (i := 18) (by decide +kernel))))
  have e : co = cI := Option.some.inj (o1.symm.trans a1)
  subst e
  refine ⟨(co, cL, cZ, cA), fun k q hk => ?_, kA, o2, o3⟩
  match k, hk with
  | 0, hk => cases hk; exact ⟨fun n z => ⟨fun k h => (by cases h), kI, a2, xI, a3⟩, a1⟩
  | 1, hk => cases hk; exact ⟨fun n z => ⟨fun k h => (by cases h), kL, b2, xL, b3⟩, b1⟩
  | 2, hk => cases hk; exact ⟨fun n z => ⟨fun k h => (by cases h), kZ, z2, xZ, z3⟩, z1⟩
  | 3, hk => cases hk; exact ⟨fun n z => ⟨fun k h => (by cases h), kA, o2, co, o3⟩, o4⟩
  | k + 4, hk => cases hk
theorem lw_st0 {b : Nat} {s : State} (hts : ∀ w ∈ lw_tbl, w.before #[Value.ref b] s = true) (hgv : (Jvm.Cond.and given_1 narrow_1).before #[Value.ref b] s = true) : ∃ t : Nat, va_Z "ShaftDiscs" (jm_sn 0) "[I" (.ref t) (nA s) s s.heap ∧ va_T .int t (jm_tb (40 + 0)).length (fun j => .int ((jm_tb (40 + 0)).getD j 0)) (nA s) s s.heap := by
  have hs := flat_of_before _ hgv
  obtain ⟨t, h1, h2⟩ := va_Tof (tm := (.static "ShaftDiscs" "LEAST_TOLD" "[I")) (ty := .int) (N := 4) (f := fun j => .int ((jm_tb (40 + 0)).getD j 0)) (A := nA s) (by decide) (hs (.arrayOf (.static "ShaftDiscs" "LEAST_TOLD" "[I") .int) (by decide +kernel)) (va_eqt (hs (.eq (.length (.static "ShaftDiscs" "LEAST_TOLD" "[I")) (.int 4)) (by decide +kernel))) (fun j hj => by
    rcases (show j = 0 ∨ j = 1 ∨ j = 2 ∨ j = 3 by omega) with rfl | rfl | rfl | rfl
    · exact va_eqt (hs (.eq (.elem (.static "ShaftDiscs" "LEAST_TOLD" "[I") (.int 0)) (.int 1)) (by decide +kernel))
    · exact va_eqt (hs (.eq (.elem (.static "ShaftDiscs" "LEAST_TOLD" "[I") (.int 1)) (.int 0)) (by decide +kernel))
    · exact va_eqt (hs (.eq (.elem (.static "ShaftDiscs" "LEAST_TOLD" "[I") (.int 2)) (.int 0)) (by decide +kernel))
    · exact va_eqt (hs (.eq (.elem (.static "ShaftDiscs" "LEAST_TOLD" "[I") (.int 3)) (.int 1)) (by decide +kernel))) (fun a ha h => absurd h (Nat.not_le.mpr ha))
  exact ⟨t, va_Zof (hts (.laysStatic "ShaftDiscs" "LEAST_TOLD" "[I") (jm_in (List.mem_of_getElem? (i := 265) (by decide +kernel)))) (hts (.initialized "ShaftDiscs") (jm_in (List.mem_of_getElem? (i := 1) (by decide +kernel)))) h1 (fun a ha h => absurd h (Nat.not_le.mpr ha)), h2⟩
theorem lw_st1 {b : Nat} {s : State} (hts : ∀ w ∈ lw_tbl, w.before #[Value.ref b] s = true) (hgv : (Jvm.Cond.and given_1 narrow_1).before #[Value.ref b] s = true) : ∃ t : Nat, va_Z "ShaftDiscs" (jm_sn 1) "[I" (.ref t) (nA s) s s.heap ∧ va_T .int t (jm_tb (40 + 1)).length (fun j => .int ((jm_tb (40 + 1)).getD j 0)) (nA s) s s.heap := by
  have hs := flat_of_before _ hgv
  obtain ⟨t, h1, h2⟩ := va_Tof (tm := (.static "ShaftDiscs" "MOST_TOLD" "[I")) (ty := .int) (N := 4) (f := fun j => .int ((jm_tb (40 + 1)).getD j 0)) (A := nA s) (by decide) (hs (.arrayOf (.static "ShaftDiscs" "MOST_TOLD" "[I") .int) (by decide +kernel)) (va_eqt (hs (.eq (.length (.static "ShaftDiscs" "MOST_TOLD" "[I")) (.int 4)) (by decide +kernel))) (fun j hj => by
    rcases (show j = 0 ∨ j = 1 ∨ j = 2 ∨ j = 3 by omega) with rfl | rfl | rfl | rfl
    · exact va_eqt (hs (.eq (.elem (.static "ShaftDiscs" "MOST_TOLD" "[I") (.int 0)) (.int 5)) (by decide +kernel))
    · exact va_eqt (hs (.eq (.elem (.static "ShaftDiscs" "MOST_TOLD" "[I") (.int 1)) (.int 40)) (by decide +kernel))
    · exact va_eqt (hs (.eq (.elem (.static "ShaftDiscs" "MOST_TOLD" "[I") (.int 2)) (.int 9)) (by decide +kernel))
    · exact va_eqt (hs (.eq (.elem (.static "ShaftDiscs" "MOST_TOLD" "[I") (.int 3)) (.int 5)) (by decide +kernel))) (fun a ha h => absurd h (Nat.not_le.mpr ha))
  exact ⟨t, va_Zof (hts (.laysStatic "ShaftDiscs" "MOST_TOLD" "[I") (jm_in (List.mem_of_getElem? (i := 267) (by decide +kernel)))) (hts (.initialized "ShaftDiscs") (jm_in (List.mem_of_getElem? (i := 1) (by decide +kernel)))) h1 (fun a ha h => absurd h (Nat.not_le.mpr ha)), h2⟩
theorem lw_st2 {b : Nat} {s : State} (hts : ∀ w ∈ lw_tbl, w.before #[Value.ref b] s = true) (hgv : (Jvm.Cond.and given_1 narrow_1).before #[Value.ref b] s = true) : ∃ t : Nat, va_Z "ShaftDiscs" (jm_sn 2) "[I" (.ref t) (nA s) s s.heap ∧ va_T .int t (jm_tb (40 + 2)).length (fun j => .int ((jm_tb (40 + 2)).getD j 0)) (nA s) s s.heap := by
  have hs := flat_of_before _ hgv
  obtain ⟨t, h1, h2⟩ := va_Tof (tm := (.static "ShaftDiscs" "KIND_ABOVE" "[I")) (ty := .int) (N := 6) (f := fun j => .int ((jm_tb (40 + 2)).getD j 0)) (A := nA s) (by decide) (hs (.arrayOf (.static "ShaftDiscs" "KIND_ABOVE" "[I") .int) (by decide +kernel)) (va_eqt (hs (.eq (.length (.static "ShaftDiscs" "KIND_ABOVE" "[I")) (.int 6)) (by decide +kernel))) (fun j hj => by
    rcases (show j = 0 ∨ j = 1 ∨ j = 2 ∨ j = 3 ∨ j = 4 ∨ j = 5 by omega) with rfl | rfl | rfl | rfl | rfl | rfl
    · exact va_eqt (hs (.eq (.elem (.static "ShaftDiscs" "KIND_ABOVE" "[I") (.int 0)) (.int (-1))) (by decide +kernel))
    · exact va_eqt (hs (.eq (.elem (.static "ShaftDiscs" "KIND_ABOVE" "[I") (.int 1)) (.int 0)) (by decide +kernel))
    · exact va_eqt (hs (.eq (.elem (.static "ShaftDiscs" "KIND_ABOVE" "[I") (.int 2)) (.int 1)) (by decide +kernel))
    · exact va_eqt (hs (.eq (.elem (.static "ShaftDiscs" "KIND_ABOVE" "[I") (.int 3)) (.int 1)) (by decide +kernel))
    · exact va_eqt (hs (.eq (.elem (.static "ShaftDiscs" "KIND_ABOVE" "[I") (.int 4)) (.int 0)) (by decide +kernel))
    · exact va_eqt (hs (.eq (.elem (.static "ShaftDiscs" "KIND_ABOVE" "[I") (.int 5)) (.int 4)) (by decide +kernel))) (fun a ha h => absurd h (Nat.not_le.mpr ha))
  exact ⟨t, va_Zof (hts (.laysStatic "ShaftDiscs" "KIND_ABOVE" "[I") (jm_in (List.mem_of_getElem? (i := 546) (by decide +kernel)))) (hts (.initialized "ShaftDiscs") (jm_in (List.mem_of_getElem? (i := 1) (by decide +kernel)))) h1 (fun a ha h => absurd h (Nat.not_le.mpr ha)), h2⟩
theorem lw_st3 {b : Nat} {s : State} (hts : ∀ w ∈ lw_tbl, w.before #[Value.ref b] s = true) (hgv : (Jvm.Cond.and given_1 narrow_1).before #[Value.ref b] s = true) : ∃ t : Nat, va_Z "ShaftDiscs" (jm_sn 3) "[I" (.ref t) (nA s) s s.heap ∧ va_T .int t (jm_tb (40 + 3)).length (fun j => .int ((jm_tb (40 + 3)).getD j 0)) (nA s) s s.heap := by
  have hs := flat_of_before _ hgv
  obtain ⟨t, h1, h2⟩ := va_Tof (tm := (.static "ShaftDiscs" "SIZE_BODY" "[I")) (ty := .int) (N := 6) (f := fun j => .int ((jm_tb (40 + 3)).getD j 0)) (A := nA s) (by decide) (hs (.arrayOf (.static "ShaftDiscs" "SIZE_BODY" "[I") .int) (by decide +kernel)) (va_eqt (hs (.eq (.length (.static "ShaftDiscs" "SIZE_BODY" "[I")) (.int 6)) (by decide +kernel))) (fun j hj => by
    rcases (show j = 0 ∨ j = 1 ∨ j = 2 ∨ j = 3 ∨ j = 4 ∨ j = 5 by omega) with rfl | rfl | rfl | rfl | rfl | rfl
    · exact va_eqt (hs (.eq (.elem (.static "ShaftDiscs" "SIZE_BODY" "[I") (.int 0)) (.int 10)) (by decide +kernel))
    · exact va_eqt (hs (.eq (.elem (.static "ShaftDiscs" "SIZE_BODY" "[I") (.int 1)) (.int 11)) (by decide +kernel))
    · exact va_eqt (hs (.eq (.elem (.static "ShaftDiscs" "SIZE_BODY" "[I") (.int 2)) (.int 12)) (by decide +kernel))
    · exact va_eqt (hs (.eq (.elem (.static "ShaftDiscs" "SIZE_BODY" "[I") (.int 3)) (.int 11)) (by decide +kernel))
    · exact va_eqt (hs (.eq (.elem (.static "ShaftDiscs" "SIZE_BODY" "[I") (.int 4)) (.int 13)) (by decide +kernel))
    · exact va_eqt (hs (.eq (.elem (.static "ShaftDiscs" "SIZE_BODY" "[I") (.int 5)) (.int 14)) (by decide +kernel))) (fun a ha h => absurd h (Nat.not_le.mpr ha))
  exact ⟨t, va_Zof (hts (.laysStatic "ShaftDiscs" "SIZE_BODY" "[I") (jm_in (List.mem_of_getElem? (i := 556) (by decide +kernel)))) (hts (.initialized "ShaftDiscs") (jm_in (List.mem_of_getElem? (i := 1) (by decide +kernel)))) h1 (fun a ha h => absurd h (Nat.not_le.mpr ha)), h2⟩
theorem lw_st4 {b : Nat} {s : State} (hts : ∀ w ∈ lw_tbl, w.before #[Value.ref b] s = true) (hgv : (Jvm.Cond.and given_1 narrow_1).before #[Value.ref b] s = true) : ∃ t : Nat, va_Z "ShaftDiscs" (jm_sn 4) "[I" (.ref t) (nA s) s s.heap ∧ va_T .int t (jm_tb (40 + 4)).length (fun j => .int ((jm_tb (40 + 4)).getD j 0)) (nA s) s s.heap := by
  have hs := flat_of_before _ hgv
  obtain ⟨t, h1, h2⟩ := va_Tof (tm := (.static "ShaftDiscs" "MARK_BODY" "[I")) (ty := .int) (N := 6) (f := fun j => .int ((jm_tb (40 + 4)).getD j 0)) (A := nA s) (by decide) (hs (.arrayOf (.static "ShaftDiscs" "MARK_BODY" "[I") .int) (by decide +kernel)) (va_eqt (hs (.eq (.length (.static "ShaftDiscs" "MARK_BODY" "[I")) (.int 6)) (by decide +kernel))) (fun j hj => by
    rcases (show j = 0 ∨ j = 1 ∨ j = 2 ∨ j = 3 ∨ j = 4 ∨ j = 5 by omega) with rfl | rfl | rfl | rfl | rfl | rfl
    · exact va_eqt (hs (.eq (.elem (.static "ShaftDiscs" "MARK_BODY" "[I") (.int 0)) (.int 20)) (by decide +kernel))
    · exact va_eqt (hs (.eq (.elem (.static "ShaftDiscs" "MARK_BODY" "[I") (.int 1)) (.int 21)) (by decide +kernel))
    · exact va_eqt (hs (.eq (.elem (.static "ShaftDiscs" "MARK_BODY" "[I") (.int 2)) (.int 24)) (by decide +kernel))
    · exact va_eqt (hs (.eq (.elem (.static "ShaftDiscs" "MARK_BODY" "[I") (.int 3)) (.int 22)) (by decide +kernel))
    · exact va_eqt (hs (.eq (.elem (.static "ShaftDiscs" "MARK_BODY" "[I") (.int 4)) (.int 23)) (by decide +kernel))
    · exact va_eqt (hs (.eq (.elem (.static "ShaftDiscs" "MARK_BODY" "[I") (.int 5)) (.int 23)) (by decide +kernel))) (fun a ha h => absurd h (Nat.not_le.mpr ha))
  exact ⟨t, va_Zof (hts (.laysStatic "ShaftDiscs" "MARK_BODY" "[I") (jm_in (List.mem_of_getElem? (i := 558) (by decide +kernel)))) (hts (.initialized "ShaftDiscs") (jm_in (List.mem_of_getElem? (i := 1) (by decide +kernel)))) h1 (fun a ha h => absurd h (Nat.not_le.mpr ha)), h2⟩
theorem lw_nest {b : Nat} {s : State} (hts : ∀ w ∈ lw_tbl, w.before #[Value.ref b] s = true) : ∀ w ∈ lw_tbl, jm_nest w = true → va_Nw w s := by
  intro w hw hn
  have h := hts w hw
  match w, hn, h with
  | .fieldLinkNest a b c d e f, _, h => exact h
  | .methodLinkNest a b c d, _, h => exact h
