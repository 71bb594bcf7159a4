-- CONSTRUCTORS: acts, reader, speeds
theorem dI0_0 : decode cX0_init 0 = .ok (.aload_n 0, 1) := by decide +kernel
theorem dI0_1 : decode cX0_init 1 = .ok (.invokespecial 3, 3) := by decide +kernel
theorem dI0_4 : decode cX0_init 4 = .ok (.aload_n 0, 1) := by decide +kernel
theorem dI0_5 : decode cX0_init 5 = .ok (.bipush 24, 2) := by decide +kernel
theorem dI0_7 : decode cX0_init 7 = .ok (.newarray .int, 2) := by decide +kernel
theorem dI0_9 : decode cX0_init 9 = .ok (.putfield 9, 3) := by decide +kernel
theorem dI0_12 : decode cX0_init 12 = .ok (.aload_n 0, 1) := by decide +kernel
theorem dI0_13 : decode cX0_init 13 = .ok (.bipush 24, 2) := by decide +kernel
theorem dI0_15 : decode cX0_init 15 = .ok (.newarray .int, 2) := by decide +kernel
theorem dI0_17 : decode cX0_init 17 = .ok (.putfield 15, 3) := by decide +kernel
theorem dI0_20 : decode cX0_init 20 = .ok (.aload_n 0, 1) := by decide +kernel
theorem dI0_21 : decode cX0_init 21 = .ok (.bipush 24, 2) := by decide +kernel
theorem dI0_23 : decode cX0_init 23 = .ok (.newarray .int, 2) := by decide +kernel
theorem dI0_25 : decode cX0_init 25 = .ok (.putfield 18, 3) := by decide +kernel
theorem dI0_28 : decode cX0_init 28 = .ok (.aload_n 0, 1) := by decide +kernel
theorem dI0_29 : decode cX0_init 29 = .ok (.iconst 0, 1) := by decide +kernel
theorem dI0_30 : decode cX0_init 30 = .ok (.putfield 21, 3) := by decide +kernel
theorem dI0_33 : decode cX0_init 33 = .ok (.return_, 1) := by decide +kernel
def kW0 (cy : jm_C) (h0 : Nat) (u : Nat × Nat × Nat) : va_W := match u with
  | (q0, q1, q2) => [(h0, .inr (0, [.ref q0, .ref q1, .ref q2, .int 0])), (q0, .inl (cy.1, 24, .inl (fun _ => 0))), (q1, .inl (cy.1, 24, .inl (fun _ => 0))), (q2, .inl (cy.1, 24, .inl (fun _ => 0)))]
set_option maxHeartbeats 4000000 in
set_option maxRecDepth 100000 in
theorem k_init0 (l : Launch) (cy : jm_C) (D : va_G) (h0 sz : Nat) : Met l yX0_init (Cond.code yX0_init cX0_init 1 none :: jm_tgd) ({ frames := 1, cells := 3, slots := 72, locals := 12 }) (va_Pc [.ref h0] (jm_Pi cy D sz [(h0, .inr (0, [.null, .null, .null, .int 0]))])) (va_Qv (fun _ : Nat × Nat × Nat => True) (fun u t => va_P D vwCl (kW0 cy h0 u) t.heap ∧ va_D (va_A [(h0, .inr (0, [.null, .null, .null, .int 0]))] sz) (kW0 cy h0 u)) (va_A [(h0, .inr (0, [.null, .null, .null, .int 0]))] sz)) 3 72 (va_A [(h0, .inr (0, [.null, .null, .null, .int 0]))] sz) := by
  refine Met.ofW (cc := cX0_init) (maxL := 1) (ret := none) (by decide +kernel) rfl ?_
  intro p e s m args below meth c s₁ B hml hv
  obtain ⟨rfl, hsz, hP, hD0, hK, hN, hG⟩ := hv
  have hx := B.exec
  have hb := B.bytes
  have hr := B.returns
  have hts := atoms_spec (ws := Cond.code yX0_init cX0_init 1 none :: jm_tgd) B.pre
  have hown : s.vm.findClass RX0 = some m.cls := findClass_of_methodNamed B.named
  have hlocks := B.notSynchronized
  have hin : meth.name = "<init>" := (name_of_methodNamed B.named B.method).1
  subst hsz
  have hD := hD0.self (sz := s.heap.size)
  generalize hAe : va_A [(h0, .inr (0, [.null, .null, .null, .int 0]))] s.heap.size = A at hD ⊢
  have hA : ∀ q : Nat, s.heap.size ≤ q → A q := fun q h => by rw [← hAe]; exact Or.inr h
  have hS : va_S A s.heap s.heap [] := va_S.rf
  have hl := lv_entry ([.ref h0]) (n := 1) (Nat.le_of_ble_eq_true rfl)
  rw [lg_entry_eq]
  generalize (lg_sl ([.ref h0]) ++ List.replicate (1 - (lg_sl ([.ref h0])).length) Slot.unset).toArray = ls at hl ⊢
  have hl : lv_has ls 1 [(0, .ref h0)] := hl
  refine lv_aload_n hx hb dI0_0 rfl (lv_at hl 0 rfl) ?_
  refine W.objInit hx hb hown (jm_wrd hts (jm_in (List.mem_of_getElem? (i := 79) (by decide +kernel))) rfl) (jm_wrd hts (jm_in (List.mem_of_getElem? (i := 15) (by decide +kernel))) rfl) (jm_wrd hts (jm_in (List.mem_of_getElem? (i := 16) (by decide +kernel))) rfl) rfl (by rw [hml]; exact hl.1) rfl dI0_1 (Nat.le_of_ble_eq_true rfl) (Nat.le_of_ble_eq_true rfl) ?_
  refine W.eq (g2 := F0 m 4 ls []) rfl ?_
  refine lv_aload_n hx hb dI0_4 rfl (lv_at hl 0 rfl) ?_
  refine lv_bipush (v := 24) hx hb dI0_5 (by decide) ?_
  refine va_newa (atype := .int) (ty := .int) (a0 := (24, .inl (fun _ => 0))) (N' := 24) hx hb (jm_wrd hts (jm_in (List.mem_of_getElem? (i := 47) (by decide +kernel))) rfl) rfl hK hP hD hS hA (fun _ => rfl) (by decide) (by decide) (by decide) (Nat.le_of_ble_eq_true rfl) (Nat.le_of_ble_eq_true rfl) dI0_7 (fun q0 cA H hK1 hP hD hS => ?_)
  have eA := jm_tyI hK1
  subst eA
  have hP : va_P D vwCl [(h0, .inr (0, [.null, .null, .null, .int 0])), (q0, .inl (cy.1, 24, .inl (fun _ => 0)))] H := hP
  have hD : va_D A [(h0, .inr (0, [.null, .null, .null, .int 0])), (q0, .inl (cy.1, 24, .inl (fun _ => 0)))] := hD
  refine va_putF (D := D) (ci := 0) (v := .ref q0) (ty := (.array .int)) (C := RX0) (T := TX0) (N := 4) hx hb hts (jm_lyd inX0) tyX0 tyX0_ok nmX0 hown hK hP hD hS 0 rfl rfl 0 (by decide) (jm_wrd hts (jm_in (List.mem_of_getElem? (i := 80) (by decide +kernel))) rfl) (fun _ h9 => h9) rfl hin rfl (by decide +kernel) rfl rfl (Nat.le_of_ble_eq_true rfl) dI0_9 (fun H locs hP hD hS => ?_)
  have hP : va_P D vwCl [(h0, .inr (0, [.ref q0, .null, .null, .int 0])), (q0, .inl (cy.1, 24, .inl (fun _ => 0)))] H := hP
  have hD : va_D A [(h0, .inr (0, [.ref q0, .null, .null, .int 0])), (q0, .inl (cy.1, 24, .inl (fun _ => 0)))] := hD
  refine lv_aload_n hx hb dI0_12 rfl (lv_at hl 0 rfl) ?_
  refine lv_bipush (v := 24) hx hb dI0_13 (by decide) ?_
  refine va_newa (atype := .int) (ty := .int) (a0 := (24, .inl (fun _ => 0))) (N' := 24) hx hb (jm_wrd hts (jm_in (List.mem_of_getElem? (i := 47) (by decide +kernel))) rfl) rfl hK hP hD hS hA (fun _ => rfl) (by decide) (by decide) (by decide) (Nat.le_of_ble_eq_true rfl) (Nat.le_of_ble_eq_true rfl) dI0_15 (fun q1 cA H hK1 hP hD hS => ?_)
  have eA := jm_tyI hK1
  subst eA
  have hP : va_P D vwCl [(h0, .inr (0, [.ref q0, .null, .null, .int 0])), (q0, .inl (cy.1, 24, .inl (fun _ => 0))), (q1, .inl (cy.1, 24, .inl (fun _ => 0)))] H := hP
  have hD : va_D A [(h0, .inr (0, [.ref q0, .null, .null, .int 0])), (q0, .inl (cy.1, 24, .inl (fun _ => 0))), (q1, .inl (cy.1, 24, .inl (fun _ => 0)))] := hD
  refine va_putF (D := D) (ci := 0) (v := .ref q1) (ty := (.array .int)) (C := RX0) (T := TX0) (N := 4) hx hb hts (jm_lyd inX0) tyX0 tyX0_ok nmX0 hown hK hP hD hS 0 rfl rfl 1 (by decide) (jm_wrd hts (jm_in (List.mem_of_getElem? (i := 81) (by decide +kernel))) rfl) (fun _ h9 => h9) rfl hin rfl (by decide +kernel) rfl rfl (Nat.le_of_ble_eq_true rfl) dI0_17 (fun H locs hP hD hS => ?_)
  have hP : va_P D vwCl [(h0, .inr (0, [.ref q0, .ref q1, .null, .int 0])), (q0, .inl (cy.1, 24, .inl (fun _ => 0))), (q1, .inl (cy.1, 24, .inl (fun _ => 0)))] H := hP
  have hD : va_D A [(h0, .inr (0, [.ref q0, .ref q1, .null, .int 0])), (q0, .inl (cy.1, 24, .inl (fun _ => 0))), (q1, .inl (cy.1, 24, .inl (fun _ => 0)))] := hD
  refine lv_aload_n hx hb dI0_20 rfl (lv_at hl 0 rfl) ?_
  refine lv_bipush (v := 24) hx hb dI0_21 (by decide) ?_
  refine va_newa (atype := .int) (ty := .int) (a0 := (24, .inl (fun _ => 0))) (N' := 24) hx hb (jm_wrd hts (jm_in (List.mem_of_getElem? (i := 47) (by decide +kernel))) rfl) rfl hK hP hD hS hA (fun _ => rfl) (by decide) (by decide) (by decide) (Nat.le_of_ble_eq_true rfl) (Nat.le_of_ble_eq_true rfl) dI0_23 (fun q2 cA H hK1 hP hD hS => ?_)
  have eA := jm_tyI hK1
  subst eA
  have hP : va_P D vwCl [(h0, .inr (0, [.ref q0, .ref q1, .null, .int 0])), (q0, .inl (cy.1, 24, .inl (fun _ => 0))), (q1, .inl (cy.1, 24, .inl (fun _ => 0))), (q2, .inl (cy.1, 24, .inl (fun _ => 0)))] H := hP
  have hD : va_D A [(h0, .inr (0, [.ref q0, .ref q1, .null, .int 0])), (q0, .inl (cy.1, 24, .inl (fun _ => 0))), (q1, .inl (cy.1, 24, .inl (fun _ => 0))), (q2, .inl (cy.1, 24, .inl (fun _ => 0)))] := hD
  refine va_putF (D := D) (ci := 0) (v := .ref q2) (ty := (.array .int)) (C := RX0) (T := TX0) (N := 4) hx hb hts (jm_lyd inX0) tyX0 tyX0_ok nmX0 hown hK hP hD hS 0 rfl rfl 2 (by decide) (jm_wrd hts (jm_in (List.mem_of_getElem? (i := 82) (by decide +kernel))) rfl) (fun _ h9 => h9) rfl hin rfl (by decide +kernel) rfl rfl (Nat.le_of_ble_eq_true rfl) dI0_25 (fun H locs hP hD hS => ?_)
  have hP : va_P D vwCl [(h0, .inr (0, [.ref q0, .ref q1, .ref q2, .int 0])), (q0, .inl (cy.1, 24, .inl (fun _ => 0))), (q1, .inl (cy.1, 24, .inl (fun _ => 0))), (q2, .inl (cy.1, 24, .inl (fun _ => 0)))] H := hP
  have hD : va_D A [(h0, .inr (0, [.ref q0, .ref q1, .ref q2, .int 0])), (q0, .inl (cy.1, 24, .inl (fun _ => 0))), (q1, .inl (cy.1, 24, .inl (fun _ => 0))), (q2, .inl (cy.1, 24, .inl (fun _ => 0)))] := hD
  refine lv_aload_n hx hb dI0_28 rfl (lv_at hl 0 rfl) ?_
  refine lv_iconst (v := 0) hx hb dI0_29 (by decide) ?_
  refine va_put (D := D) (ci := 0) (v := .int 0) (ty := .int) (C := RX0) (T := TX0) (N := 4) hx hb hts (jm_lyd inX0) tyX0 tyX0_ok nmX0 hown hK hP hD hS 0 rfl rfl 3 (by decide) (jm_wrd hts (jm_in (List.mem_of_getElem? (i := 83) (by decide +kernel))) rfl) (fun _ h9 => h9) rfl (by decide +kernel) rfl rfl (Nat.le_of_ble_eq_true rfl) dI0_30 (fun H locs hP hD hS => ?_)
  have hP : va_P D vwCl [(h0, .inr (0, [.ref q0, .ref q1, .ref q2, .int 0])), (q0, .inl (cy.1, 24, .inl (fun _ => 0))), (q1, .inl (cy.1, 24, .inl (fun _ => 0))), (q2, .inl (cy.1, 24, .inl (fun _ => 0)))] H := hP
  have hD : va_D A [(h0, .inr (0, [.ref q0, .ref q1, .ref q2, .int 0])), (q0, .inl (cy.1, 24, .inl (fun _ => 0))), (q1, .inl (cy.1, 24, .inl (fun _ => 0))), (q2, .inl (cy.1, 24, .inl (fun _ => 0)))] := hD
  refine W.widen (k := 3) (n := 72) (Nat.le_of_ble_eq_true rfl) (Nat.le_of_ble_eq_true rfl) ?_
  exact W.vret hx hb hr (fun t ht hW => ⟨⟨⟨q0, q1, q2⟩, rfl, trivial, by rw [ht]; exact hP, hD⟩, hS.F ht⟩) hS.2.2 dI0_33

theorem dI1_0 : decode cX1_init 0 = .ok (.aload_n 0, 1) := by decide +kernel
theorem dI1_1 : decode cX1_init 1 = .ok (.invokespecial 3, 3) := by decide +kernel
theorem dI1_4 : decode cX1_init 4 = .ok (.aload_n 0, 1) := by decide +kernel
theorem dI1_5 : decode cX1_init 5 = .ok (.bipush 80, 2) := by decide +kernel
theorem dI1_7 : decode cX1_init 7 = .ok (.newarray .int, 2) := by decide +kernel
theorem dI1_9 : decode cX1_init 9 = .ok (.putfield 9, 3) := by decide +kernel
theorem dI1_12 : decode cX1_init 12 = .ok (.aload_n 0, 1) := by decide +kernel
theorem dI1_13 : decode cX1_init 13 = .ok (.iconst 0, 1) := by decide +kernel
theorem dI1_14 : decode cX1_init 14 = .ok (.putfield 15, 3) := by decide +kernel
theorem dI1_17 : decode cX1_init 17 = .ok (.aload_n 0, 1) := by decide +kernel
theorem dI1_18 : decode cX1_init 18 = .ok (.iconst 0, 1) := by decide +kernel
theorem dI1_19 : decode cX1_init 19 = .ok (.putfield 19, 3) := by decide +kernel
theorem dI1_22 : decode cX1_init 22 = .ok (.aload_n 0, 1) := by decide +kernel
theorem dI1_23 : decode cX1_init 23 = .ok (.iconst 0, 1) := by decide +kernel
theorem dI1_24 : decode cX1_init 24 = .ok (.putfield 22, 3) := by decide +kernel
theorem dI1_27 : decode cX1_init 27 = .ok (.aload_n 0, 1) := by decide +kernel
theorem dI1_28 : decode cX1_init 28 = .ok (.iconst 0, 1) := by decide +kernel
theorem dI1_29 : decode cX1_init 29 = .ok (.putfield 25, 3) := by decide +kernel
theorem dI1_32 : decode cX1_init 32 = .ok (.aload_n 0, 1) := by decide +kernel
theorem dI1_33 : decode cX1_init 33 = .ok (.iconst 0, 1) := by decide +kernel
theorem dI1_34 : decode cX1_init 34 = .ok (.putfield 28, 3) := by decide +kernel
theorem dI1_37 : decode cX1_init 37 = .ok (.return_, 1) := by decide +kernel
def kW1 (cy : jm_C) (h0 : Nat) (u : Nat) : va_W := match u with
  | q0 => [(h0, .inr (1, [.ref q0, .int 0, .int 0, .int 0, .int 0, .int 0])), (q0, .inl (cy.1, 80, .inl (fun _ => 0)))]
set_option maxHeartbeats 4000000 in
set_option maxRecDepth 100000 in
theorem k_init1 (l : Launch) (cy : jm_C) (D : va_G) (h0 sz : Nat) : Met l yX1_init (Cond.code yX1_init cX1_init 1 none :: jm_tgd) ({ frames := 1, cells := 1, slots := 80, locals := 12 }) (va_Pc [.ref h0] (jm_Pi cy D sz [(h0, .inr (1, [.null, .int 0, .int 0, .int 0, .int 0, .int 0]))])) (va_Qv (fun _ : Nat => True) (fun u t => va_P D vwCl (kW1 cy h0 u) t.heap ∧ va_D (va_A [(h0, .inr (1, [.null, .int 0, .int 0, .int 0, .int 0, .int 0]))] sz) (kW1 cy h0 u)) (va_A [(h0, .inr (1, [.null, .int 0, .int 0, .int 0, .int 0, .int 0]))] sz)) 1 80 (va_A [(h0, .inr (1, [.null, .int 0, .int 0, .int 0, .int 0, .int 0]))] sz) := by
  refine Met.ofW (cc := cX1_init) (maxL := 1) (ret := none) (by decide +kernel) rfl ?_
  intro p e s m args below meth c s₁ B hml hv
  obtain ⟨rfl, hsz, hP, hD0, hK, hN, hG⟩ := hv
  have hx := B.exec
  have hb := B.bytes
  have hr := B.returns
  have hts := atoms_spec (ws := Cond.code yX1_init cX1_init 1 none :: jm_tgd) B.pre
  have hown : s.vm.findClass RX1 = some m.cls := findClass_of_methodNamed B.named
  have hlocks := B.notSynchronized
  have hin : meth.name = "<init>" := (name_of_methodNamed B.named B.method).1
  subst hsz
  have hD := hD0.self (sz := s.heap.size)
  generalize hAe : va_A [(h0, .inr (1, [.null, .int 0, .int 0, .int 0, .int 0, .int 0]))] s.heap.size = A at hD ⊢
  have hA : ∀ q : Nat, s.heap.size ≤ q → A q := fun q h => by rw [← hAe]; exact Or.inr h
  have hS : va_S A s.heap s.heap [] := va_S.rf
  have hl := lv_entry ([.ref h0]) (n := 1) (Nat.le_of_ble_eq_true rfl)
  rw [lg_entry_eq]
  generalize (lg_sl ([.ref h0]) ++ List.replicate (1 - (lg_sl ([.ref h0])).length) Slot.unset).toArray = ls at hl ⊢
  have hl : lv_has ls 1 [(0, .ref h0)] := hl
  refine lv_aload_n hx hb dI1_0 rfl (lv_at hl 0 rfl) ?_
  refine W.objInit hx hb hown (jm_wrd hts (jm_in (List.mem_of_getElem? (i := 24) (by decide +kernel))) rfl) (jm_wrd hts (jm_in (List.mem_of_getElem? (i := 15) (by decide +kernel))) rfl) (jm_wrd hts (jm_in (List.mem_of_getElem? (i := 16) (by decide +kernel))) rfl) rfl (by rw [hml]; exact hl.1) rfl dI1_1 (Nat.le_of_ble_eq_true rfl) (Nat.le_of_ble_eq_true rfl) ?_
  refine W.eq (g2 := F0 m 4 ls []) rfl ?_
  refine lv_aload_n hx hb dI1_4 rfl (lv_at hl 0 rfl) ?_
  refine lv_bipush (v := 80) hx hb dI1_5 (by decide) ?_
  refine va_newa (atype := .int) (ty := .int) (a0 := (80, .inl (fun _ => 0))) (N' := 80) hx hb (jm_wrd hts (jm_in (List.mem_of_getElem? (i := 47) (by decide +kernel))) rfl) rfl hK hP hD hS hA (fun _ => rfl) (by decide) (by decide) (by decide) (Nat.le_of_ble_eq_true rfl) (Nat.le_of_ble_eq_true rfl) dI1_7 (fun q0 cA H hK1 hP hD hS => ?_)
  have eA := jm_tyI hK1
  subst eA
  have hP : va_P D vwCl [(h0, .inr (1, [.null, .int 0, .int 0, .int 0, .int 0, .int 0])), (q0, .inl (cy.1, 80, .inl (fun _ => 0)))] H := hP
  have hD : va_D A [(h0, .inr (1, [.null, .int 0, .int 0, .int 0, .int 0, .int 0])), (q0, .inl (cy.1, 80, .inl (fun _ => 0)))] := hD
  refine va_putF (D := D) (ci := 1) (v := .ref q0) (ty := (.array .int)) (C := RX1) (T := TX1) (N := 6) hx hb hts (jm_lyd inX1) tyX1 tyX1_ok nmX1 hown hK hP hD hS 0 rfl rfl 0 (by decide) (jm_wrd hts (jm_in (List.mem_of_getElem? (i := 25) (by decide +kernel))) rfl) (fun _ h9 => h9) rfl hin rfl (by decide +kernel) rfl rfl (Nat.le_of_ble_eq_true rfl) dI1_9 (fun H locs hP hD hS => ?_)
  have hP : va_P D vwCl [(h0, .inr (1, [.ref q0, .int 0, .int 0, .int 0, .int 0, .int 0])), (q0, .inl (cy.1, 80, .inl (fun _ => 0)))] H := hP
  have hD : va_D A [(h0, .inr (1, [.ref q0, .int 0, .int 0, .int 0, .int 0, .int 0])), (q0, .inl (cy.1, 80, .inl (fun _ => 0)))] := hD
  refine lv_aload_n hx hb dI1_12 rfl (lv_at hl 0 rfl) ?_
  refine lv_iconst (v := 0) hx hb dI1_13 (by decide) ?_
  refine va_put (D := D) (ci := 1) (v := .int 0) (ty := .int) (C := RX1) (T := TX1) (N := 6) hx hb hts (jm_lyd inX1) tyX1 tyX1_ok nmX1 hown hK hP hD hS 0 rfl rfl 1 (by decide) (jm_wrd hts (jm_in (List.mem_of_getElem? (i := 26) (by decide +kernel))) rfl) (fun _ h9 => h9) rfl (by decide +kernel) rfl rfl (Nat.le_of_ble_eq_true rfl) dI1_14 (fun H locs hP hD hS => ?_)
  have hP : va_P D vwCl [(h0, .inr (1, [.ref q0, .int 0, .int 0, .int 0, .int 0, .int 0])), (q0, .inl (cy.1, 80, .inl (fun _ => 0)))] H := hP
  have hD : va_D A [(h0, .inr (1, [.ref q0, .int 0, .int 0, .int 0, .int 0, .int 0])), (q0, .inl (cy.1, 80, .inl (fun _ => 0)))] := hD
  refine lv_aload_n hx hb dI1_17 rfl (lv_at hl 0 rfl) ?_
  refine lv_iconst (v := 0) hx hb dI1_18 (by decide) ?_
  refine va_put (D := D) (ci := 1) (v := .int 0) (ty := .int) (C := RX1) (T := TX1) (N := 6) hx hb hts (jm_lyd inX1) tyX1 tyX1_ok nmX1 hown hK hP hD hS 0 rfl rfl 2 (by decide) (jm_wrd hts (jm_in (List.mem_of_getElem? (i := 28) (by decide +kernel))) rfl) (fun _ h9 => h9) rfl (by decide +kernel) rfl rfl (Nat.le_of_ble_eq_true rfl) dI1_19 (fun H locs hP hD hS => ?_)
  have hP : va_P D vwCl [(h0, .inr (1, [.ref q0, .int 0, .int 0, .int 0, .int 0, .int 0])), (q0, .inl (cy.1, 80, .inl (fun _ => 0)))] H := hP
  have hD : va_D A [(h0, .inr (1, [.ref q0, .int 0, .int 0, .int 0, .int 0, .int 0])), (q0, .inl (cy.1, 80, .inl (fun _ => 0)))] := hD
  refine lv_aload_n hx hb dI1_22 rfl (lv_at hl 0 rfl) ?_
  refine lv_iconst (v := 0) hx hb dI1_23 (by decide) ?_
  refine va_put (D := D) (ci := 1) (v := .int 0) (ty := .int) (C := RX1) (T := TX1) (N := 6) hx hb hts (jm_lyd inX1) tyX1 tyX1_ok nmX1 hown hK hP hD hS 0 rfl rfl 3 (by decide) (jm_wrd hts (jm_in (List.mem_of_getElem? (i := 29) (by decide +kernel))) rfl) (fun _ h9 => h9) rfl (by decide +kernel) rfl rfl (Nat.le_of_ble_eq_true rfl) dI1_24 (fun H locs hP hD hS => ?_)
  have hP : va_P D vwCl [(h0, .inr (1, [.ref q0, .int 0, .int 0, .int 0, .int 0, .int 0])), (q0, .inl (cy.1, 80, .inl (fun _ => 0)))] H := hP
  have hD : va_D A [(h0, .inr (1, [.ref q0, .int 0, .int 0, .int 0, .int 0, .int 0])), (q0, .inl (cy.1, 80, .inl (fun _ => 0)))] := hD
  refine lv_aload_n hx hb dI1_27 rfl (lv_at hl 0 rfl) ?_
  refine lv_iconst (v := 0) hx hb dI1_28 (by decide) ?_
  refine va_put (D := D) (ci := 1) (v := .int 0) (ty := .int) (C := RX1) (T := TX1) (N := 6) hx hb hts (jm_lyd inX1) tyX1 tyX1_ok nmX1 hown hK hP hD hS 0 rfl rfl 4 (by decide) (jm_wrd hts (jm_in (List.mem_of_getElem? (i := 30) (by decide +kernel))) rfl) (fun _ h9 => h9) rfl (by decide +kernel) rfl rfl (Nat.le_of_ble_eq_true rfl) dI1_29 (fun H locs hP hD hS => ?_)
  have hP : va_P D vwCl [(h0, .inr (1, [.ref q0, .int 0, .int 0, .int 0, .int 0, .int 0])), (q0, .inl (cy.1, 80, .inl (fun _ => 0)))] H := hP
  have hD : va_D A [(h0, .inr (1, [.ref q0, .int 0, .int 0, .int 0, .int 0, .int 0])), (q0, .inl (cy.1, 80, .inl (fun _ => 0)))] := hD
  refine lv_aload_n hx hb dI1_32 rfl (lv_at hl 0 rfl) ?_
  refine lv_iconst (v := 0) hx hb dI1_33 (by decide) ?_
  refine va_put (D := D) (ci := 1) (v := .int 0) (ty := .int) (C := RX1) (T := TX1) (N := 6) hx hb hts (jm_lyd inX1) tyX1 tyX1_ok nmX1 hown hK hP hD hS 0 rfl rfl 5 (by decide) (jm_wrd hts (jm_in (List.mem_of_getElem? (i := 32) (by decide +kernel))) rfl) (fun _ h9 => h9) rfl (by decide +kernel) rfl rfl (Nat.le_of_ble_eq_true rfl) dI1_34 (fun H locs hP hD hS => ?_)
  have hP : va_P D vwCl [(h0, .inr (1, [.ref q0, .int 0, .int 0, .int 0, .int 0, .int 0])), (q0, .inl (cy.1, 80, .inl (fun _ => 0)))] H := hP
  have hD : va_D A [(h0, .inr (1, [.ref q0, .int 0, .int 0, .int 0, .int 0, .int 0])), (q0, .inl (cy.1, 80, .inl (fun _ => 0)))] := hD
  refine W.widen (k := 1) (n := 80) (Nat.le_of_ble_eq_true rfl) (Nat.le_of_ble_eq_true rfl) ?_
  exact W.vret hx hb hr (fun t ht hW => ⟨⟨q0, rfl, trivial, by rw [ht]; exact hP, hD⟩, hS.F ht⟩) hS.2.2 dI1_37

theorem dI3_0 : decode cX3_init 0 = .ok (.aload_n 0, 1) := by decide +kernel
theorem dI3_1 : decode cX3_init 1 = .ok (.invokespecial 3, 3) := by decide +kernel
theorem dI3_4 : decode cX3_init 4 = .ok (.aload_n 0, 1) := by decide +kernel
theorem dI3_5 : decode cX3_init 5 = .ok (.bipush 6, 2) := by decide +kernel
theorem dI3_7 : decode cX3_init 7 = .ok (.newarray .long, 2) := by decide +kernel
theorem dI3_9 : decode cX3_init 9 = .ok (.putfield 9, 3) := by decide +kernel
theorem dI3_12 : decode cX3_init 12 = .ok (.aload_n 0, 1) := by decide +kernel
theorem dI3_13 : decode cX3_init 13 = .ok (.bipush 6, 2) := by decide +kernel
theorem dI3_15 : decode cX3_init 15 = .ok (.newarray .long, 2) := by decide +kernel
theorem dI3_17 : decode cX3_init 17 = .ok (.putfield 15, 3) := by decide +kernel
theorem dI3_20 : decode cX3_init 20 = .ok (.aload_n 0, 1) := by decide +kernel
theorem dI3_21 : decode cX3_init 21 = .ok (.bipush 6, 2) := by decide +kernel
theorem dI3_23 : decode cX3_init 23 = .ok (.newarray .long, 2) := by decide +kernel
theorem dI3_25 : decode cX3_init 25 = .ok (.putfield 18, 3) := by decide +kernel
theorem dI3_28 : decode cX3_init 28 = .ok (.aload_n 0, 1) := by decide +kernel
theorem dI3_29 : decode cX3_init 29 = .ok (.bipush 7, 2) := by decide +kernel
theorem dI3_31 : decode cX3_init 31 = .ok (.newarray .long, 2) := by decide +kernel
theorem dI3_33 : decode cX3_init 33 = .ok (.putfield 21, 3) := by decide +kernel
theorem dI3_36 : decode cX3_init 36 = .ok (.aload_n 0, 1) := by decide +kernel
theorem dI3_37 : decode cX3_init 37 = .ok (.bipush 6, 2) := by decide +kernel
theorem dI3_39 : decode cX3_init 39 = .ok (.newarray .int, 2) := by decide +kernel
theorem dI3_41 : decode cX3_init 41 = .ok (.putfield 24, 3) := by decide +kernel
theorem dI3_44 : decode cX3_init 44 = .ok (.aload_n 0, 1) := by decide +kernel
theorem dI3_45 : decode cX3_init 45 = .ok (.iconst 0, 1) := by decide +kernel
theorem dI3_46 : decode cX3_init 46 = .ok (.putfield 28, 3) := by decide +kernel
theorem dI3_49 : decode cX3_init 49 = .ok (.aload_n 0, 1) := by decide +kernel
theorem dI3_50 : decode cX3_init 50 = .ok (.iconst 0, 1) := by decide +kernel
theorem dI3_51 : decode cX3_init 51 = .ok (.putfield 32, 3) := by decide +kernel
theorem dI3_54 : decode cX3_init 54 = .ok (.return_, 1) := by decide +kernel
def kW3 (cy : jm_C) (h0 : Nat) (u : Nat × Nat × Nat × Nat × Nat) : va_W := match u with
  | (q0, q1, q2, q3, q4) => [(h0, .inr (3, [.ref q0, .ref q1, .ref q2, .ref q3, .ref q4, .int 0, .int 0])), (q0, .inl (cy.2.1, 6, .inr (.inl (fun _ => 0)))), (q1, .inl (cy.2.1, 6, .inr (.inl (fun _ => 0)))), (q2, .inl (cy.2.1, 6, .inr (.inl (fun _ => 0)))), (q3, .inl (cy.2.1, 7, .inr (.inl (fun _ => 0)))), (q4, .inl (cy.1, 6, .inl (fun _ => 0)))]
set_option maxHeartbeats 4000000 in
set_option maxRecDepth 100000 in
theorem k_init3 (l : Launch) (cy : jm_C) (D : va_G) (h0 sz : Nat) : Met l yX3_init (Cond.code yX3_init cX3_init 1 none :: jm_tgd) ({ frames := 1, cells := 5, slots := 31, locals := 12 }) (va_Pc [.ref h0] (jm_Pi cy D sz [(h0, .inr (3, [.null, .null, .null, .null, .null, .int 0, .int 0]))])) (va_Qv (fun _ : Nat × Nat × Nat × Nat × Nat => True) (fun u t => va_P D vwCl (kW3 cy h0 u) t.heap ∧ va_D (va_A [(h0, .inr (3, [.null, .null, .null, .null, .null, .int 0, .int 0]))] sz) (kW3 cy h0 u)) (va_A [(h0, .inr (3, [.null, .null, .null, .null, .null, .int 0, .int 0]))] sz)) 5 31 (va_A [(h0, .inr (3, [.null, .null, .null, .null, .null, .int 0, .int 0]))] sz) := by
  refine Met.ofW (cc := cX3_init) (maxL := 1) (ret := none) (by decide +kernel) rfl ?_
  intro p e s m args below meth c s₁ B hml hv
  obtain ⟨rfl, hsz, hP, hD0, hK, hN, hG⟩ := hv
  have hx := B.exec
  have hb := B.bytes
  have hr := B.returns
  have hts := atoms_spec (ws := Cond.code yX3_init cX3_init 1 none :: jm_tgd) B.pre
  have hown : s.vm.findClass RX3 = some m.cls := findClass_of_methodNamed B.named
  have hlocks := B.notSynchronized
  have hin : meth.name = "<init>" := (name_of_methodNamed B.named B.method).1
  subst hsz
  have hD := hD0.self (sz := s.heap.size)
  generalize hAe : va_A [(h0, .inr (3, [.null, .null, .null, .null, .null, .int 0, .int 0]))] s.heap.size = A at hD ⊢
  have hA : ∀ q : Nat, s.heap.size ≤ q → A q := fun q h => by rw [← hAe]; exact Or.inr h
  have hS : va_S A s.heap s.heap [] := va_S.rf
  have hl := lv_entry ([.ref h0]) (n := 1) (Nat.le_of_ble_eq_true rfl)
  rw [lg_entry_eq]
  generalize (lg_sl ([.ref h0]) ++ List.replicate (1 - (lg_sl ([.ref h0])).length) Slot.unset).toArray = ls at hl ⊢
  have hl : lv_has ls 1 [(0, .ref h0)] := hl
  refine lv_aload_n hx hb dI3_0 rfl (lv_at hl 0 rfl) ?_
  refine W.objInit hx hb hown (jm_wrd hts (jm_in (List.mem_of_getElem? (i := 99) (by decide +kernel))) rfl) (jm_wrd hts (jm_in (List.mem_of_getElem? (i := 15) (by decide +kernel))) rfl) (jm_wrd hts (jm_in (List.mem_of_getElem? (i := 16) (by decide +kernel))) rfl) rfl (by rw [hml]; exact hl.1) rfl dI3_1 (Nat.le_of_ble_eq_true rfl) (Nat.le_of_ble_eq_true rfl) ?_
  refine W.eq (g2 := F0 m 4 ls []) rfl ?_
  refine lv_aload_n hx hb dI3_4 rfl (lv_at hl 0 rfl) ?_
  refine lv_bipush (v := 6) hx hb dI3_5 (by decide) ?_
  refine va_newa (atype := .long) (ty := .long) (a0 := (6, .inr (.inl (fun _ => 0)))) (N' := 6) hx hb (jm_wrd hts (jm_in (List.mem_of_getElem? (i := 123) (by decide +kernel))) rfl) rfl hK hP hD hS hA (fun _ => rfl) (by decide) (by decide) (by decide) (Nat.le_of_ble_eq_true rfl) (Nat.le_of_ble_eq_true rfl) dI3_7 (fun q0 cA H hK1 hP hD hS => ?_)
  have eA := jm_tyL hK1
  subst eA
  have hP : va_P D vwCl [(h0, .inr (3, [.null, .null, .null, .null, .null, .int 0, .int 0])), (q0, .inl (cy.2.1, 6, .inr (.inl (fun _ => 0))))] H := hP
  have hD : va_D A [(h0, .inr (3, [.null, .null, .null, .null, .null, .int 0, .int 0])), (q0, .inl (cy.2.1, 6, .inr (.inl (fun _ => 0))))] := hD
  refine va_putF (D := D) (ci := 3) (v := .ref q0) (ty := (.array .long)) (C := RX3) (T := TX3) (N := 7) hx hb hts (jm_lyd inX3) tyX3 tyX3_ok nmX3 hown hK hP hD hS 0 rfl rfl 0 (by decide) (jm_wrd hts (jm_in (List.mem_of_getElem? (i := 100) (by decide +kernel))) rfl) (fun _ h9 => h9) rfl hin rfl (by decide +kernel) rfl rfl (Nat.le_of_ble_eq_true rfl) dI3_9 (fun H locs hP hD hS => ?_)
  have hP : va_P D vwCl [(h0, .inr (3, [.ref q0, .null, .null, .null, .null, .int 0, .int 0])), (q0, .inl (cy.2.1, 6, .inr (.inl (fun _ => 0))))] H := hP
  have hD : va_D A [(h0, .inr (3, [.ref q0, .null, .null, .null, .null, .int 0, .int 0])), (q0, .inl (cy.2.1, 6, .inr (.inl (fun _ => 0))))] := hD
  refine lv_aload_n hx hb dI3_12 rfl (lv_at hl 0 rfl) ?_
  refine lv_bipush (v := 6) hx hb dI3_13 (by decide) ?_
  refine va_newa (atype := .long) (ty := .long) (a0 := (6, .inr (.inl (fun _ => 0)))) (N' := 6) hx hb (jm_wrd hts (jm_in (List.mem_of_getElem? (i := 123) (by decide +kernel))) rfl) rfl hK hP hD hS hA (fun _ => rfl) (by decide) (by decide) (by decide) (Nat.le_of_ble_eq_true rfl) (Nat.le_of_ble_eq_true rfl) dI3_15 (fun q1 cA H hK1 hP hD hS => ?_)
  have eA := jm_tyL hK1
  subst eA
  have hP : va_P D vwCl [(h0, .inr (3, [.ref q0, .null, .null, .null, .null, .int 0, .int 0])), (q0, .inl (cy.2.1, 6, .inr (.inl (fun _ => 0)))), (q1, .inl (cy.2.1, 6, .inr (.inl (fun _ => 0))))] H := hP
  have hD : va_D A [(h0, .inr (3, [.ref q0, .null, .null, .null, .null, .int 0, .int 0])), (q0, .inl (cy.2.1, 6, .inr (.inl (fun _ => 0)))), (q1, .inl (cy.2.1, 6, .inr (.inl (fun _ => 0))))] := hD
  refine va_putF (D := D) (ci := 3) (v := .ref q1) (ty := (.array .long)) (C := RX3) (T := TX3) (N := 7) hx hb hts (jm_lyd inX3) tyX3 tyX3_ok nmX3 hown hK hP hD hS 0 rfl rfl 1 (by decide) (jm_wrd hts (jm_in (List.mem_of_getElem? (i := 101) (by decide +kernel))) rfl) (fun _ h9 => h9) rfl hin rfl (by decide +kernel) rfl rfl (Nat.le_of_ble_eq_true rfl) dI3_17 (fun H locs hP hD hS => ?_)
  have hP : va_P D vwCl [(h0, .inr (3, [.ref q0, .ref q1, .null, .null, .null, .int 0, .int 0])), (q0, .inl (cy.2.1, 6, .inr (.inl (fun _ => 0)))), (q1, .inl (cy.2.1, 6, .inr (.inl (fun _ => 0))))] H := hP
  have hD : va_D A [(h0, .inr (3, [.ref q0, .ref q1, .null, .null, .null, .int 0, .int 0])), (q0, .inl (cy.2.1, 6, .inr (.inl (fun _ => 0)))), (q1, .inl (cy.2.1, 6, .inr (.inl (fun _ => 0))))] := hD
  refine lv_aload_n hx hb dI3_20 rfl (lv_at hl 0 rfl) ?_
  refine lv_bipush (v := 6) hx hb dI3_21 (by decide) ?_
  refine va_newa (atype := .long) (ty := .long) (a0 := (6, .inr (.inl (fun _ => 0)))) (N' := 6) hx hb (jm_wrd hts (jm_in (List.mem_of_getElem? (i := 123) (by decide +kernel))) rfl) rfl hK hP hD hS hA (fun _ => rfl) (by decide) (by decide) (by decide) (Nat.le_of_ble_eq_true rfl) (Nat.le_of_ble_eq_true rfl) dI3_23 (fun q2 cA H hK1 hP hD hS => ?_)
  have eA := jm_tyL hK1
  subst eA
  have hP : va_P D vwCl [(h0, .inr (3, [.ref q0, .ref q1, .null, .null, .null, .int 0, .int 0])), (q0, .inl (cy.2.1, 6, .inr (.inl (fun _ => 0)))), (q1, .inl (cy.2.1, 6, .inr (.inl (fun _ => 0)))), (q2, .inl (cy.2.1, 6, .inr (.inl (fun _ => 0))))] H := hP
  have hD : va_D A [(h0, .inr (3, [.ref q0, .ref q1, .null, .null, .null, .int 0, .int 0])), (q0, .inl (cy.2.1, 6, .inr (.inl (fun _ => 0)))), (q1, .inl (cy.2.1, 6, .inr (.inl (fun _ => 0)))), (q2, .inl (cy.2.1, 6, .inr (.inl (fun _ => 0))))] := hD
  refine va_putF (D := D) (ci := 3) (v := .ref q2) (ty := (.array .long)) (C := RX3) (T := TX3) (N := 7) hx hb hts (jm_lyd inX3) tyX3 tyX3_ok nmX3 hown hK hP hD hS 0 rfl rfl 2 (by decide) (jm_wrd hts (jm_in (List.mem_of_getElem? (i := 102) (by decide +kernel))) rfl) (fun _ h9 => h9) rfl hin rfl (by decide +kernel) rfl rfl (Nat.le_of_ble_eq_true rfl) dI3_25 (fun H locs hP hD hS => ?_)
  have hP : va_P D vwCl [(h0, .inr (3, [.ref q0, .ref q1, .ref q2, .null, .null, .int 0, .int 0])), (q0, .inl (cy.2.1, 6, .inr (.inl (fun _ => 0)))), (q1, .inl (cy.2.1, 6, .inr (.inl (fun _ => 0)))), (q2, .inl (cy.2.1, 6, .inr (.inl (fun _ => 0))))] H := hP
  have hD : va_D A [(h0, .inr (3, [.ref q0, .ref q1, .ref q2, .null, .null, .int 0, .int 0])), (q0, .inl (cy.2.1, 6, .inr (.inl (fun _ => 0)))), (q1, .inl (cy.2.1, 6, .inr (.inl (fun _ => 0)))), (q2, .inl (cy.2.1, 6, .inr (.inl (fun _ => 0))))] := hD
  refine lv_aload_n hx hb dI3_28 rfl (lv_at hl 0 rfl) ?_
  refine lv_bipush (v := 7) hx hb dI3_29 (by decide) ?_
  refine va_newa (atype := .long) (ty := .long) (a0 := (7, .inr (.inl (fun _ => 0)))) (N' := 7) hx hb (jm_wrd hts (jm_in (List.mem_of_getElem? (i := 123) (by decide +kernel))) rfl) rfl hK hP hD hS hA (fun _ => rfl) (by decide) (by decide) (by decide) (Nat.le_of_ble_eq_true rfl) (Nat.le_of_ble_eq_true rfl) dI3_31 (fun q3 cA H hK1 hP hD hS => ?_)
  have eA := jm_tyL hK1
  subst eA
  have hP : va_P D vwCl [(h0, .inr (3, [.ref q0, .ref q1, .ref q2, .null, .null, .int 0, .int 0])), (q0, .inl (cy.2.1, 6, .inr (.inl (fun _ => 0)))), (q1, .inl (cy.2.1, 6, .inr (.inl (fun _ => 0)))), (q2, .inl (cy.2.1, 6, .inr (.inl (fun _ => 0)))), (q3, .inl (cy.2.1, 7, .inr (.inl (fun _ => 0))))] H := hP
  have hD : va_D A [(h0, .inr (3, [.ref q0, .ref q1, .ref q2, .null, .null, .int 0, .int 0])), (q0, .inl (cy.2.1, 6, .inr (.inl (fun _ => 0)))), (q1, .inl (cy.2.1, 6, .inr (.inl (fun _ => 0)))), (q2, .inl (cy.2.1, 6, .inr (.inl (fun _ => 0)))), (q3, .inl (cy.2.1, 7, .inr (.inl (fun _ => 0))))] := hD
  refine va_putF (D := D) (ci := 3) (v := .ref q3) (ty := (.array .long)) (C := RX3) (T := TX3) (N := 7) hx hb hts (jm_lyd inX3) tyX3 tyX3_ok nmX3 hown hK hP hD hS 0 rfl rfl 3 (by decide) (jm_wrd hts (jm_in (List.mem_of_getElem? (i := 103) (by decide +kernel))) rfl) (fun _ h9 => h9) rfl hin rfl (by decide +kernel) rfl rfl (Nat.le_of_ble_eq_true rfl) dI3_33 (fun H locs hP hD hS => ?_)
  have hP : va_P D vwCl [(h0, .inr (3, [.ref q0, .ref q1, .ref q2, .ref q3, .null, .int 0, .int 0])), (q0, .inl (cy.2.1, 6, .inr (.inl (fun _ => 0)))), (q1, .inl (cy.2.1, 6, .inr (.inl (fun _ => 0)))), (q2, .inl (cy.2.1, 6, .inr (.inl (fun _ => 0)))), (q3, .inl (cy.2.1, 7, .inr (.inl (fun _ => 0))))] H := hP
  have hD : va_D A [(h0, .inr (3, [.ref q0, .ref q1, .ref q2, .ref q3, .null, .int 0, .int 0])), (q0, .inl (cy.2.1, 6, .inr (.inl (fun _ => 0)))), (q1, .inl (cy.2.1, 6, .inr (.inl (fun _ => 0)))), (q2, .inl (cy.2.1, 6, .inr (.inl (fun _ => 0)))), (q3, .inl (cy.2.1, 7, .inr (.inl (fun _ => 0))))] := hD
  refine lv_aload_n hx hb dI3_36 rfl (lv_at hl 0 rfl) ?_
  refine lv_bipush (v := 6) hx hb dI3_37 (by decide) ?_
  refine va_newa (atype := .int) (ty := .int) (a0 := (6, .inl (fun _ => 0))) (N' := 6) hx hb (jm_wrd hts (jm_in (List.mem_of_getElem? (i := 47) (by decide +kernel))) rfl) rfl hK hP hD hS hA (fun _ => rfl) (by decide) (by decide) (by decide) (Nat.le_of_ble_eq_true rfl) (Nat.le_of_ble_eq_true rfl) dI3_39 (fun q4 cA H hK1 hP hD hS => ?_)
  have eA := jm_tyI hK1
  subst eA
  have hP : va_P D vwCl [(h0, .inr (3, [.ref q0, .ref q1, .ref q2, .ref q3, .null, .int 0, .int 0])), (q0, .inl (cy.2.1, 6, .inr (.inl (fun _ => 0)))), (q1, .inl (cy.2.1, 6, .inr (.inl (fun _ => 0)))), (q2, .inl (cy.2.1, 6, .inr (.inl (fun _ => 0)))), (q3, .inl (cy.2.1, 7, .inr (.inl (fun _ => 0)))), (q4, .inl (cy.1, 6, .inl (fun _ => 0)))] H := hP
  have hD : va_D A [(h0, .inr (3, [.ref q0, .ref q1, .ref q2, .ref q3, .null, .int 0, .int 0])), (q0, .inl (cy.2.1, 6, .inr (.inl (fun _ => 0)))), (q1, .inl (cy.2.1, 6, .inr (.inl (fun _ => 0)))), (q2, .inl (cy.2.1, 6, .inr (.inl (fun _ => 0)))), (q3, .inl (cy.2.1, 7, .inr (.inl (fun _ => 0)))), (q4, .inl (cy.1, 6, .inl (fun _ => 0)))] := hD
  refine va_putF (D := D) (ci := 3) (v := .ref q4) (ty := (.array .int)) (C := RX3) (T := TX3) (N := 7) hx hb hts (jm_lyd inX3) tyX3 tyX3_ok nmX3 hown hK hP hD hS 0 rfl rfl 4 (by decide) (jm_wrd hts (jm_in (List.mem_of_getElem? (i := 105) (by decide +kernel))) rfl) (fun _ h9 => h9) rfl hin rfl (by decide +kernel) rfl rfl (Nat.le_of_ble_eq_true rfl) dI3_41 (fun H locs hP hD hS => ?_)
  have hP : va_P D vwCl [(h0, .inr (3, [.ref q0, .ref q1, .ref q2, .ref q3, .ref q4, .int 0, .int 0])), (q0, .inl (cy.2.1, 6, .inr (.inl (fun _ => 0)))), (q1, .inl (cy.2.1, 6, .inr (.inl (fun _ => 0)))), (q2, .inl (cy.2.1, 6, .inr (.inl (fun _ => 0)))), (q3, .inl (cy.2.1, 7, .inr (.inl (fun _ => 0)))), (q4, .inl (cy.1, 6, .inl (fun _ => 0)))] H := hP
  have hD : va_D A [(h0, .inr (3, [.ref q0, .ref q1, .ref q2, .ref q3, .ref q4, .int 0, .int 0])), (q0, .inl (cy.2.1, 6, .inr (.inl (fun _ => 0)))), (q1, .inl (cy.2.1, 6, .inr (.inl (fun _ => 0)))), (q2, .inl (cy.2.1, 6, .inr (.inl (fun _ => 0)))), (q3, .inl (cy.2.1, 7, .inr (.inl (fun _ => 0)))), (q4, .inl (cy.1, 6, .inl (fun _ => 0)))] := hD
  refine lv_aload_n hx hb dI3_44 rfl (lv_at hl 0 rfl) ?_
  refine lv_iconst (v := 0) hx hb dI3_45 (by decide) ?_
  refine va_put (D := D) (ci := 3) (v := .int 0) (ty := .int) (C := RX3) (T := TX3) (N := 7) hx hb hts (jm_lyd inX3) tyX3 tyX3_ok nmX3 hown hK hP hD hS 0 rfl rfl 5 (by decide) (jm_wrd hts (jm_in (List.mem_of_getElem? (i := 106) (by decide +kernel))) rfl) (fun _ h9 => h9) rfl (by decide +kernel) rfl rfl (Nat.le_of_ble_eq_true rfl) dI3_46 (fun H locs hP hD hS => ?_)
  have hP : va_P D vwCl [(h0, .inr (3, [.ref q0, .ref q1, .ref q2, .ref q3, .ref q4, .int 0, .int 0])), (q0, .inl (cy.2.1, 6, .inr (.inl (fun _ => 0)))), (q1, .inl (cy.2.1, 6, .inr (.inl (fun _ => 0)))), (q2, .inl (cy.2.1, 6, .inr (.inl (fun _ => 0)))), (q3, .inl (cy.2.1, 7, .inr (.inl (fun _ => 0)))), (q4, .inl (cy.1, 6, .inl (fun _ => 0)))] H := hP
  have hD : va_D A [(h0, .inr (3, [.ref q0, .ref q1, .ref q2, .ref q3, .ref q4, .int 0, .int 0])), (q0, .inl (cy.2.1, 6, .inr (.inl (fun _ => 0)))), (q1, .inl (cy.2.1, 6, .inr (.inl (fun _ => 0)))), (q2, .inl (cy.2.1, 6, .inr (.inl (fun _ => 0)))), (q3, .inl (cy.2.1, 7, .inr (.inl (fun _ => 0)))), (q4, .inl (cy.1, 6, .inl (fun _ => 0)))] := hD
  refine lv_aload_n hx hb dI3_49 rfl (lv_at hl 0 rfl) ?_
  refine lv_iconst (v := 0) hx hb dI3_50 (by decide) ?_
  refine va_put (D := D) (ci := 3) (v := .int 0) (ty := .boolean) (C := RX3) (T := TX3) (N := 7) hx hb hts (jm_lyd inX3) tyX3 tyX3_ok nmX3 hown hK hP hD hS 0 rfl rfl 6 (by decide) (jm_wrd hts (jm_in (List.mem_of_getElem? (i := 107) (by decide +kernel))) rfl) (fun _ h9 => h9) rfl (by decide +kernel) rfl rfl (Nat.le_of_ble_eq_true rfl) dI3_51 (fun H locs hP hD hS => ?_)
  have hP : va_P D vwCl [(h0, .inr (3, [.ref q0, .ref q1, .ref q2, .ref q3, .ref q4, .int 0, .int 0])), (q0, .inl (cy.2.1, 6, .inr (.inl (fun _ => 0)))), (q1, .inl (cy.2.1, 6, .inr (.inl (fun _ => 0)))), (q2, .inl (cy.2.1, 6, .inr (.inl (fun _ => 0)))), (q3, .inl (cy.2.1, 7, .inr (.inl (fun _ => 0)))), (q4, .inl (cy.1, 6, .inl (fun _ => 0)))] H := hP
  have hD : va_D A [(h0, .inr (3, [.ref q0, .ref q1, .ref q2, .ref q3, .ref q4, .int 0, .int 0])), (q0, .inl (cy.2.1, 6, .inr (.inl (fun _ => 0)))), (q1, .inl (cy.2.1, 6, .inr (.inl (fun _ => 0)))), (q2, .inl (cy.2.1, 6, .inr (.inl (fun _ => 0)))), (q3, .inl (cy.2.1, 7, .inr (.inl (fun _ => 0)))), (q4, .inl (cy.1, 6, .inl (fun _ => 0)))] := hD
  refine W.widen (k := 5) (n := 31) (Nat.le_of_ble_eq_true rfl) (Nat.le_of_ble_eq_true rfl) ?_
  exact W.vret hx hb hr (fun t ht hW => ⟨⟨⟨q0, q1, q2, q3, q4⟩, rfl, trivial, by rw [ht]; exact hP, hD⟩, hS.F ht⟩) hS.2.2 dI3_54
