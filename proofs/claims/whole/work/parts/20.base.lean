-- CONSTRUCTORS: words, what is known of the array classes
def jm_gr (cy : jm_C) (U : State) : Prop := ∃ k : Class, U.vm.classes[cy.2.2.2]? = some k ∧ k.kind = .array cy.1 (.array .int)
theorem jm_gr.moved {cy : jm_C} {u U : State} (h : u.vm.Alike U.vm) (g : jm_gr cy u) : jm_gr cy U := by
  obtain ⟨k, h1, h2⟩ := g
  obtain ⟨k', h3, h4⟩ := h.2.2 _ _ h1
  exact ⟨k', h3, by rw [h4]; exact h2⟩
def jm_Pi (cy : jm_C) (D : va_G) (sz : Nat) (ws : va_W) (U : State) : Prop := U.heap.size = sz ∧ va_P D vwCl ws U.heap ∧ va_D (fun _ => True) ws ∧ va_K D vwCl (jm_tys cy) U ∧ (∀ w ∈ lw_tbl, jm_nest w = true → va_Nw w U) ∧ jm_gr cy U
theorem jm_Pi_blind (cy : jm_C) (D : va_G) (sz : Nat) (ws : va_W) (as : List Value) : FrameBlind (va_Pc as (jm_Pi cy D sz ws)) := by
  intro a U g mk h
  obtain ⟨h0, h1, h2, h3, h4, h5, h6⟩ := h
  exact ⟨h0, h1, h2, h3, va_K.moved (u := U) (U := U.calling g mk a) (Vm.Alike.refl U.vm) h4, jm_nw_same (U := U) (V := U.calling g mk a) rfl h5, jm_gr.moved (u := U) (U := U.calling g mk a) (Vm.Alike.refl U.vm) h6⟩
theorem jm_tyI {D : va_G} {cy : jm_C} {cA : ClassId} {U : State} (h : va_K D vwCl (jm_tys cy ++ [(cA, .int)]) U) : cA = cy.1 := by
  have h1 : U.vm.findClass ("[" ++ FieldType.int.toString) = some cy.1 := (h.2 0 (cy.1, .int) rfl).2
  have h2 : U.vm.findClass ("[" ++ FieldType.int.toString) = some cA := (h.2 4 (cA, .int) rfl).2
  exact Option.some.inj (h2.symm.trans h1)
theorem jm_tyL {D : va_G} {cy : jm_C} {cA : ClassId} {U : State} (h : va_K D vwCl (jm_tys cy ++ [(cA, .long)]) U) : cA = cy.2.1 := by
  have h1 : U.vm.findClass ("[" ++ FieldType.long.toString) = some cy.2.1 := (h.2 1 (cy.2.1, .long) rfl).2
  have h2 : U.vm.findClass ("[" ++ FieldType.long.toString) = some cA := (h.2 4 (cA, .long) rfl).2
  exact Option.some.inj (h2.symm.trans h1)
theorem jm_tyZ {D : va_G} {cy : jm_C} {cA : ClassId} {U : State} (h : va_K D vwCl (jm_tys cy ++ [(cA, .boolean)]) U) : cA = cy.2.2.1 := by
  have h1 : U.vm.findClass ("[" ++ FieldType.boolean.toString) = some cy.2.2.1 := (h.2 2 (cy.2.2.1, .boolean) rfl).2
  have h2 : U.vm.findClass ("[" ++ FieldType.boolean.toString) = some cA := (h.2 4 (cA, .boolean) rfl).2
  exact Option.some.inj (h2.symm.trans h1)
theorem jm_wrd {args : Array Value} {s : State} {x w : Cond} (hts : ∀ w ∈ (x :: jm_tgd), w.before args s = true) (h : w ∈ lw_tbl) (hg : goodWord w = true) : w.before args s = true := hts w (List.mem_cons_of_mem _ (jm_tgd_mem h hg))
theorem jm_lyd {x : Cond} {C : String} {T : u_T} {N : Nat} (h : ∀ w ∈ u_ws C T N, w ∈ lw_tbl) : ∀ w ∈ u_ws C T N, w ∈ (x :: jm_tgd) := fun w hw => List.mem_cons_of_mem _ (jm_good_lay h w hw)
