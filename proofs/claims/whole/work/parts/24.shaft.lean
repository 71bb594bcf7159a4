-- CONSTRUCTORS: a shaft
theorem jm_gcc {x : Cond} {y : MethodName} {cc : ByteArray} {n : Nat} {r : Option FieldType} (hc : Cond.code y cc n r ∈ lw_tbl) : GoodIn (x :: jm_tgd) (Cond.code y cc n r :: jm_tgd) := fun w h => (List.mem_cons.mp h).elim (fun e => by rw [e]; exact ⟨List.mem_cons_of_mem _ (jm_gin hc rfl).1, (jm_gin hc rfl).2⟩) (fun h => ⟨List.mem_cons_of_mem _ h, (jm_gtt w h).2⟩)
theorem dI2_0 : decode cX2_init 0 = .ok (.aload_n 0, 1) := by decide +kernel
theorem dI2_1 : decode cX2_init 1 = .ok (.invokespecial 3, 3) := by decide +kernel
theorem dI2_4 : decode cX2_init 4 = .ok (.aload_n 0, 1) := by decide +kernel
theorem dI2_5 : decode cX2_init 5 = .ok (.iconst 4, 1) := by decide +kernel
theorem dI2_6 : decode cX2_init 6 = .ok (.bipush 6, 2) := by decide +kernel
theorem dI2_8 : decode cX2_init 8 = .ok (.multianewarray 9 2, 4) := by decide +kernel
theorem dI2_12 : decode cX2_init 12 = .ok (.putfield 11, 3) := by decide +kernel
theorem dI2_15 : decode cX2_init 15 = .ok (.aload_n 0, 1) := by decide +kernel
theorem dI2_16 : decode cX2_init 16 = .ok (.iconst 0, 1) := by decide +kernel
theorem dI2_17 : decode cX2_init 17 = .ok (.putfield 16, 3) := by decide +kernel
theorem dI2_20 : decode cX2_init 20 = .ok (.aload_n 0, 1) := by decide +kernel
theorem dI2_21 : decode cX2_init 21 = .ok (.iconst 0, 1) := by decide +kernel
theorem dI2_22 : decode cX2_init 22 = .ok (.putfield 20, 3) := by decide +kernel
theorem dI2_25 : decode cX2_init 25 = .ok (.return_, 1) := by decide +kernel
def kW2 (cy : jm_C) (h0 : Nat) (u : Nat) : va_W := match u with
  | q0 => [(h0, .inr (2, [.ref q0, .int 0, .int 0])), (q0, .inl (cy.2.2.2, 4, .inr (.inr (.inr (.inr (fun i => if i < 4 then some (q0 + 1 + i) else none)))))), (q0 + 1 + 0, .inl (cy.1, 6, .inl (fun _ => 0))), (q0 + 1 + 1, .inl (cy.1, 6, .inl (fun _ => 0))), (q0 + 1 + 2, .inl (cy.1, 6, .inl (fun _ => 0))), (q0 + 1 + 3, .inl (cy.1, 6, .inl (fun _ => 0)))]
set_option maxHeartbeats 4000000 in
set_option maxRecDepth 100000 in
theorem k_init2 (l : Launch) (cy : jm_C) (D : va_G) (h0 sz : Nat) : Met l yX2_init (Cond.code yX2_init cX2_init 1 none :: jm_tgd) ({ frames := 1, cells := 5, slots := 28, locals := 12 }) (va_Pc [.ref h0] (jm_Pi cy D sz [(h0, .inr (2, [.null, .int 0, .int 0]))])) (va_Qv (fun _ : Nat => True) (fun u t => va_P D vwCl (kW2 cy h0 u) t.heap ∧ va_D (va_A [(h0, .inr (2, [.null, .int 0, .int 0]))] sz) (kW2 cy h0 u)) (va_A [(h0, .inr (2, [.null, .int 0, .int 0]))] sz)) 5 28 (va_A [(h0, .inr (2, [.null, .int 0, .int 0]))] sz) := by
  refine Met.ofW (cc := cX2_init) (maxL := 1) (ret := none) (by decide +kernel) rfl ?_
  intro p e s m args below meth c s₁ B hml hv
  obtain ⟨rfl, hsz, hP, hD0, hK, hN, hG⟩ := hv
  have hx := B.exec
  have hb := B.bytes
  have hr := B.returns
  have hts := atoms_spec (ws := Cond.code yX2_init cX2_init 1 none :: jm_tgd) B.pre
  have hown : s.vm.findClass RX2 = some m.cls := findClass_of_methodNamed B.named
  have hlocks := B.notSynchronized
  have hin : meth.name = "<init>" := (name_of_methodNamed B.named B.method).1
  subst hsz
  have hD := hD0.self (sz := s.heap.size)
  generalize hAe : va_A [(h0, .inr (2, [.null, .int 0, .int 0]))] s.heap.size = A at hD ⊢
  have hA : ∀ q : Nat, s.heap.size ≤ q → A q := fun q h => by rw [← hAe]; exact Or.inr h
  have hS : va_S A s.heap s.heap [] := va_S.rf
  have hl := lv_entry ([.ref h0]) (n := 1) (Nat.le_of_ble_eq_true rfl)
  rw [lg_entry_eq]
  generalize (lg_sl ([.ref h0]) ++ List.replicate (1 - (lg_sl ([.ref h0])).length) Slot.unset).toArray = ls at hl ⊢
  have hl : lv_has ls 1 [(0, .ref h0)] := hl
  refine lv_aload_n hx hb dI2_0 rfl (lv_at hl 0 rfl) ?_
  refine W.objInit hx hb hown (jm_wrd hts (jm_in (List.mem_of_getElem? (i := 53) (by decide +kernel))) rfl) (jm_wrd hts (jm_in (List.mem_of_getElem? (i := 15) (by decide +kernel))) rfl) (jm_wrd hts (jm_in (List.mem_of_getElem? (i := 16) (by decide +kernel))) rfl) rfl (by rw [hml]; exact hl.1) rfl dI2_1 (Nat.le_of_ble_eq_true rfl) (Nat.le_of_ble_eq_true rfl) ?_
  refine W.eq (g2 := F0 m 4 ls []) rfl ?_
  refine lv_aload_n hx hb dI2_4 rfl (lv_at hl 0 rfl) ?_
  refine lv_iconst (v := 4) hx hb dI2_5 (by decide) ?_
  refine lv_bipush (v := 6) hx hb dI2_6 (by decide) ?_
  refine va_mn2 (cy := cy) (N := 4) (K := 6) hx hb hown (jm_wrd hts (jm_in (List.mem_of_getElem? (i := 54) (by decide +kernel))) rfl) hG hK hP hD hS hA (by decide) (by decide) (by decide) (by decide) (by decide) (by decide) (Nat.le_of_ble_eq_true rfl) (Nat.le_of_ble_eq_true rfl) dI2_8 (fun q0 H hP hD hS => ?_)
  have hP : va_P D vwCl [(h0, .inr (2, [.null, .int 0, .int 0])), (q0, .inl (cy.2.2.2, 4, .inr (.inr (.inr (.inr (fun i => if i < 4 then some (q0 + 1 + i) else none)))))), (q0 + 1 + 0, .inl (cy.1, 6, .inl (fun _ => 0))), (q0 + 1 + 1, .inl (cy.1, 6, .inl (fun _ => 0))), (q0 + 1 + 2, .inl (cy.1, 6, .inl (fun _ => 0))), (q0 + 1 + 3, .inl (cy.1, 6, .inl (fun _ => 0)))] H := hP
  have hD : va_D A [(h0, .inr (2, [.null, .int 0, .int 0])), (q0, .inl (cy.2.2.2, 4, .inr (.inr (.inr (.inr (fun i => if i < 4 then some (q0 + 1 + i) else none)))))), (q0 + 1 + 0, .inl (cy.1, 6, .inl (fun _ => 0))), (q0 + 1 + 1, .inl (cy.1, 6, .inl (fun _ => 0))), (q0 + 1 + 2, .inl (cy.1, 6, .inl (fun _ => 0))), (q0 + 1 + 3, .inl (cy.1, 6, .inl (fun _ => 0)))] := hD
  refine va_putF (D := D) (ci := 2) (v := .ref q0) (ty := (.array (.array .int))) (C := RX2) (T := TX2) (N := 3) hx hb hts (jm_lyd inX2) tyX2 tyX2_ok nmX2 hown hK hP hD hS 0 rfl rfl 0 (by decide) (jm_wrd hts (jm_in (List.mem_of_getElem? (i := 55) (by decide +kernel))) rfl) (fun _ h9 => h9) rfl hin rfl (by decide +kernel) rfl rfl (Nat.le_of_ble_eq_true rfl) dI2_12 (fun H locs hP hD hS => ?_)
  have hP : va_P D vwCl [(h0, .inr (2, [.ref q0, .int 0, .int 0])), (q0, .inl (cy.2.2.2, 4, .inr (.inr (.inr (.inr (fun i => if i < 4 then some (q0 + 1 + i) else none)))))), (q0 + 1 + 0, .inl (cy.1, 6, .inl (fun _ => 0))), (q0 + 1 + 1, .inl (cy.1, 6, .inl (fun _ => 0))), (q0 + 1 + 2, .inl (cy.1, 6, .inl (fun _ => 0))), (q0 + 1 + 3, .inl (cy.1, 6, .inl (fun _ => 0)))] H := hP
  have hD : va_D A [(h0, .inr (2, [.ref q0, .int 0, .int 0])), (q0, .inl (cy.2.2.2, 4, .inr (.inr (.inr (.inr (fun i => if i < 4 then some (q0 + 1 + i) else none)))))), (q0 + 1 + 0, .inl (cy.1, 6, .inl (fun _ => 0))), (q0 + 1 + 1, .inl (cy.1, 6, .inl (fun _ => 0))), (q0 + 1 + 2, .inl (cy.1, 6, .inl (fun _ => 0))), (q0 + 1 + 3, .inl (cy.1, 6, .inl (fun _ => 0)))] := hD
  refine lv_aload_n hx hb dI2_15 rfl (lv_at hl 0 rfl) ?_
  refine lv_iconst (v := 0) hx hb dI2_16 (by decide) ?_
  refine va_put (D := D) (ci := 2) (v := .int 0) (ty := .int) (C := RX2) (T := TX2) (N := 3) hx hb hts (jm_lyd inX2) tyX2 tyX2_ok nmX2 hown hK hP hD hS 0 rfl rfl 1 (by decide) (jm_wrd hts (jm_in (List.mem_of_getElem? (i := 59) (by decide +kernel))) rfl) (fun _ h9 => h9) rfl (by decide +kernel) rfl rfl (Nat.le_of_ble_eq_true rfl) dI2_17 (fun H locs hP hD hS => ?_)
  have hP : va_P D vwCl [(h0, .inr (2, [.ref q0, .int 0, .int 0])), (q0, .inl (cy.2.2.2, 4, .inr (.inr (.inr (.inr (fun i => if i < 4 then some (q0 + 1 + i) else none)))))), (q0 + 1 + 0, .inl (cy.1, 6, .inl (fun _ => 0))), (q0 + 1 + 1, .inl (cy.1, 6, .inl (fun _ => 0))), (q0 + 1 + 2, .inl (cy.1, 6, .inl (fun _ => 0))), (q0 + 1 + 3, .inl (cy.1, 6, .inl (fun _ => 0)))] H := hP
  have hD : va_D A [(h0, .inr (2, [.ref q0, .int 0, .int 0])), (q0, .inl (cy.2.2.2, 4, .inr (.inr (.inr (.inr (fun i => if i < 4 then some (q0 + 1 + i) else none)))))), (q0 + 1 + 0, .inl (cy.1, 6, .inl (fun _ => 0))), (q0 + 1 + 1, .inl (cy.1, 6, .inl (fun _ => 0))), (q0 + 1 + 2, .inl (cy.1, 6, .inl (fun _ => 0))), (q0 + 1 + 3, .inl (cy.1, 6, .inl (fun _ => 0)))] := hD
  refine lv_aload_n hx hb dI2_20 rfl (lv_at hl 0 rfl) ?_
  refine lv_iconst (v := 0) hx hb dI2_21 (by decide) ?_
  refine va_put (D := D) (ci := 2) (v := .int 0) (ty := .int) (C := RX2) (T := TX2) (N := 3) hx hb hts (jm_lyd inX2) tyX2 tyX2_ok nmX2 hown hK hP hD hS 0 rfl rfl 2 (by decide) (jm_wrd hts (jm_in (List.mem_of_getElem? (i := 63) (by decide +kernel))) rfl) (fun _ h9 => h9) rfl (by decide +kernel) rfl rfl (Nat.le_of_ble_eq_true rfl) dI2_22 (fun H locs hP hD hS => ?_)
  have hP : va_P D vwCl [(h0, .inr (2, [.ref q0, .int 0, .int 0])), (q0, .inl (cy.2.2.2, 4, .inr (.inr (.inr (.inr (fun i => if i < 4 then some (q0 + 1 + i) else none)))))), (q0 + 1 + 0, .inl (cy.1, 6, .inl (fun _ => 0))), (q0 + 1 + 1, .inl (cy.1, 6, .inl (fun _ => 0))), (q0 + 1 + 2, .inl (cy.1, 6, .inl (fun _ => 0))), (q0 + 1 + 3, .inl (cy.1, 6, .inl (fun _ => 0)))] H := hP
  have hD : va_D A [(h0, .inr (2, [.ref q0, .int 0, .int 0])), (q0, .inl (cy.2.2.2, 4, .inr (.inr (.inr (.inr (fun i => if i < 4 then some (q0 + 1 + i) else none)))))), (q0 + 1 + 0, .inl (cy.1, 6, .inl (fun _ => 0))), (q0 + 1 + 1, .inl (cy.1, 6, .inl (fun _ => 0))), (q0 + 1 + 2, .inl (cy.1, 6, .inl (fun _ => 0))), (q0 + 1 + 3, .inl (cy.1, 6, .inl (fun _ => 0)))] := hD
  refine W.widen (k := 5) (n := 28) (Nat.le_of_ble_eq_true rfl) (Nat.le_of_ble_eq_true rfl) ?_
  exact W.vret hx hb hr (fun t ht hW => ⟨⟨q0, rfl, trivial, by rw [ht]; exact hP, hD⟩, hS.F ht⟩) hS.2.2 dI2_25
