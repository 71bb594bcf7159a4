-- THE LAW: its cases
section LC
variable {p : Program} {l : Launch} {e : Env} {s : State} {m : MethodId} {below : List Frame} {meth : Method} {c : Code} {b L : Nat} {xs : Nat → Int32} {α : Nat → Nat → Nat} {cy : jm_C} {D : va_G} {H : Heap} {locs : List Loc} {ls : Array Slot} {σ σ1 : jm_S} {cells slots : Nat} {Q : State → Prop}
theorem lwc_11 (X : LX α cy D p s m meth c b L xs) (hL : L ≤ 3072) {i : Nat} (hi : i + 5 < L) {A : aS} (hA : okA A) (hc : cRel σ A) (hr : rRel σ A) (hH : jm_H α cy D (nA s) s σ H locs) (hl : lv_has ls 4 [(0, .ref b), (1, .ref (α 0 0)), (2, .ref (α 21 0)), (3, .int (nI i))]) (hcs : cells ≤ 600000 ∧ slots ≤ 7302250) (next : ∀ (A : aS) (σ : jm_S) (H : Heap) (locs : List Loc), okA A → cRel σ A → rRel σ A → jm_H α cy D (nA s) s σ H locs → W p l e room_1 s m #[Value.ref b] below meth c H locs cells slots Q (F0 m 1181 ls [])) : W p l e room_1 s m #[Value.ref b] below meth c H locs cells slots Q (F0 m 513 ls []) := by
  obtain ⟨hx, hb, -, -, -, -, -, -, -, -⟩ := X.1
  obtain ⟨v, A', hA', hcc, hrr⟩ := P_swap hA (xs (i + 1)) (xs (i + 2))
  obtain ⟨σ1, c1, c2, c3⟩ := hcc σ hc
  obtain ⟨σ2, r1, r2, r3⟩ := hrr σ1 (hr.fr c3)
  obtain ⟨x, rfl⟩ := jm_call_I (M := jD_swap) (by decide +kernel) c1
  refine lv_aload_n hx hb d_law_513 rfl (lv_at hl 1 rfl) ?_
  refine lw_ld (lv := []) (k := 1) X hH (lv_at hl 0 rfl) (lv_at hl 3 rfl) (by decide) (by omega) hL d_law_514 d_law_515 d_law_516 d_law_517 d_law_518 ?_
  refine lw_ld (lv := []) (k := 2) X hH (lv_at hl 0 rfl) (lv_at hl 3 rfl) (by decide) (by omega) hL d_law_519 d_law_520 d_law_521 d_law_522 d_law_523 ?_
  refine lw_cv (na := 2) (as := [jm_I (xs (i + 1)), jm_I (xs (i + 2))]) (st := []) (k := 0) X jm_o49 (jm_in (List.mem_of_getElem? (i := 330) (by decide +kernel))) (jm_in (List.mem_of_getElem? (i := 331) (by decide +kernel))) (jm_in (List.mem_of_getElem? (i := 332) (by decide +kernel))) (jm_in (List.mem_of_getElem? (i := 1) (by decide +kernel))) (by decide +kernel) rfl (Or.inl ⟨by decide, by decide⟩) (⟨trivial, ⟨trivial, trivial⟩⟩) rfl (Nat.le_of_ble_eq_true rfl) (Nat.le_of_ble_eq_true rfl) hl.1 c1 hH d_law_524 (fun H locs hH => ?_) hcs
  refine lv_aload_n hx hb d_law_527 rfl (lv_at hl 2 rfl) ?_
  refine lw_ld (lv := []) (k := 1) X hH (lv_at hl 0 rfl) (lv_at hl 3 rfl) (by decide) (by omega) hL d_law_528 d_law_529 d_law_530 d_law_531 d_law_532 ?_
  refine lw_ld (lv := []) (k := 2) X hH (lv_at hl 0 rfl) (lv_at hl 3 rfl) (by decide) (by omega) hL d_law_533 d_law_534 d_law_535 d_law_536 d_law_537 ?_
  refine lw_cv (na := 2) (as := [jm_I (xs (i + 1)), jm_I (xs (i + 2))]) (st := [jm_cv α (jm_I x)]) (k := 21) X jm_o131 (jm_in (List.mem_of_getElem? (i := 794) (by decide +kernel))) (jm_in (List.mem_of_getElem? (i := 795) (by decide +kernel))) (jm_in (List.mem_of_getElem? (i := 796) (by decide +kernel))) (jm_in (List.mem_of_getElem? (i := 6) (by decide +kernel))) (by decide +kernel) rfl (Or.inl ⟨by decide, by decide⟩) (⟨trivial, ⟨trivial, trivial⟩⟩) rfl (Nat.le_of_ble_eq_true rfl) (Nat.le_of_ble_eq_true rfl) hl.1 r1 hH d_law_538 (fun H locs hH => ?_) hcs
  refine lv_icmp_eq (tgt := 1181) hx hb d_law_541 (by decide) (fun _ => next A' σ2 _ _ hA' (c2.fr r3) r2 hH) (fun h9 => absurd rfl h9)
theorem lwc_12 (X : LX α cy D p s m meth c b L xs) (hL : L ≤ 3072) {i : Nat} (hi : i + 5 < L) {A : aS} (hA : okA A) (hc : cRel σ A) (hr : rRel σ A) (hH : jm_H α cy D (nA s) s σ H locs) (hl : lv_has ls 4 [(0, .ref b), (1, .ref (α 0 0)), (2, .ref (α 21 0)), (3, .int (nI i))]) (hcs : cells ≤ 600000 ∧ slots ≤ 7302250) (next : ∀ (A : aS) (σ : jm_S) (H : Heap) (locs : List Loc), okA A → cRel σ A → rRel σ A → jm_H α cy D (nA s) s σ H locs → W p l e room_1 s m #[Value.ref b] below meth c H locs cells slots Q (F0 m 1181 ls [])) : W p l e room_1 s m #[Value.ref b] below meth c H locs cells slots Q (F0 m 546 ls []) := by
  obtain ⟨hx, hb, -, -, -, -, -, -, -, -⟩ := X.1
  obtain ⟨v, A', hA', hcc, hrr⟩ := P_disc hA (xs (i + 1)) (xs (i + 2))
  obtain ⟨σ1, c1, c2, c3⟩ := hcc σ hc
  obtain ⟨σ2, r1, r2, r3⟩ := hrr σ1 (hr.fr c3)
  obtain ⟨x, rfl⟩ := jm_call_I (M := jD_disc) (by decide +kernel) c1
  refine lv_aload_n hx hb d_law_546 rfl (lv_at hl 1 rfl) ?_
  refine lw_ld (lv := []) (k := 1) X hH (lv_at hl 0 rfl) (lv_at hl 3 rfl) (by decide) (by omega) hL d_law_547 d_law_548 d_law_549 d_law_550 d_law_551 ?_
  refine lw_ld (lv := []) (k := 2) X hH (lv_at hl 0 rfl) (lv_at hl 3 rfl) (by decide) (by omega) hL d_law_552 d_law_553 d_law_554 d_law_555 d_law_556 ?_
  refine lw_cv (na := 2) (as := [jm_I (xs (i + 1)), jm_I (xs (i + 2))]) (st := []) (k := 0) X jm_o50 (jm_in (List.mem_of_getElem? (i := 338) (by decide +kernel))) (jm_in (List.mem_of_getElem? (i := 339) (by decide +kernel))) (jm_in (List.mem_of_getElem? (i := 340) (by decide +kernel))) (jm_in (List.mem_of_getElem? (i := 1) (by decide +kernel))) (by decide +kernel) rfl (Or.inl ⟨by decide, by decide⟩) (⟨trivial, ⟨trivial, trivial⟩⟩) rfl (Nat.le_of_ble_eq_true rfl) (Nat.le_of_ble_eq_true rfl) hl.1 c1 hH d_law_557 (fun H locs hH => ?_) hcs
  refine lv_aload_n hx hb d_law_560 rfl (lv_at hl 2 rfl) ?_
  refine lw_ld (lv := []) (k := 1) X hH (lv_at hl 0 rfl) (lv_at hl 3 rfl) (by decide) (by omega) hL d_law_561 d_law_562 d_law_563 d_law_564 d_law_565 ?_
  refine lw_ld (lv := []) (k := 2) X hH (lv_at hl 0 rfl) (lv_at hl 3 rfl) (by decide) (by omega) hL d_law_566 d_law_567 d_law_568 d_law_569 d_law_570 ?_
  refine lw_cv (na := 2) (as := [jm_I (xs (i + 1)), jm_I (xs (i + 2))]) (st := [jm_cv α (jm_I x)]) (k := 21) X jm_o133 (jm_in (List.mem_of_getElem? (i := 802) (by decide +kernel))) (jm_in (List.mem_of_getElem? (i := 803) (by decide +kernel))) (jm_in (List.mem_of_getElem? (i := 804) (by decide +kernel))) (jm_in (List.mem_of_getElem? (i := 6) (by decide +kernel))) (by decide +kernel) rfl (Or.inl ⟨by decide, by decide⟩) (⟨trivial, ⟨trivial, trivial⟩⟩) rfl (Nat.le_of_ble_eq_true rfl) (Nat.le_of_ble_eq_true rfl) hl.1 r1 hH d_law_571 (fun H locs hH => ?_) hcs
  refine lv_icmp_eq (tgt := 1181) hx hb d_law_574 (by decide) (fun _ => next A' σ2 _ _ hA' (c2.fr r3) r2 hH) (fun h9 => absurd rfl h9)
theorem lwc_13 (X : LX α cy D p s m meth c b L xs) (hL : L ≤ 3072) {i : Nat} (hi : i + 5 < L) {A : aS} (hA : okA A) (hc : cRel σ A) (hr : rRel σ A) (hH : jm_H α cy D (nA s) s σ H locs) (hl : lv_has ls 4 [(0, .ref b), (1, .ref (α 0 0)), (2, .ref (α 21 0)), (3, .int (nI i))]) (hcs : cells ≤ 600000 ∧ slots ≤ 7302250) (next : ∀ (A : aS) (σ : jm_S) (H : Heap) (locs : List Loc), okA A → cRel σ A → rRel σ A → jm_H α cy D (nA s) s σ H locs → W p l e room_1 s m #[Value.ref b] below meth c H locs cells slots Q (F0 m 1181 ls [])) : W p l e room_1 s m #[Value.ref b] below meth c H locs cells slots Q (F0 m 579 ls []) := by
  obtain ⟨hx, hb, -, -, -, -, -, -, -, -⟩ := X.1
  obtain ⟨v, A', hA', hcc, hrr⟩ := P_determinant hA (xs (i + 1)) (xs (i + 2))
  obtain ⟨σ1, c1, c2, c3⟩ := hcc σ hc
  obtain ⟨σ2, r1, r2, r3⟩ := hrr σ1 (hr.fr c3)
  obtain ⟨x, rfl⟩ := jm_call_L (M := jD_determinant) (by decide +kernel) c1
  refine lv_aload_n hx hb d_law_579 rfl (lv_at hl 1 rfl) ?_
  refine lw_ld (lv := []) (k := 1) X hH (lv_at hl 0 rfl) (lv_at hl 3 rfl) (by decide) (by omega) hL d_law_580 d_law_581 d_law_582 d_law_583 d_law_584 ?_
  refine lw_ld (lv := []) (k := 2) X hH (lv_at hl 0 rfl) (lv_at hl 3 rfl) (by decide) (by omega) hL d_law_585 d_law_586 d_law_587 d_law_588 d_law_589 ?_
  refine lw_cv (na := 2) (as := [jm_I (xs (i + 1)), jm_I (xs (i + 2))]) (st := []) (k := 0) X jm_o53 (jm_in (List.mem_of_getElem? (i := 359) (by decide +kernel))) (jm_in (List.mem_of_getElem? (i := 360) (by decide +kernel))) (jm_in (List.mem_of_getElem? (i := 361) (by decide +kernel))) (jm_in (List.mem_of_getElem? (i := 1) (by decide +kernel))) (by decide +kernel) rfl (Or.inl ⟨by decide, by decide⟩) (⟨trivial, ⟨trivial, trivial⟩⟩) rfl (Nat.le_of_ble_eq_true rfl) (Nat.le_of_ble_eq_true rfl) hl.1 c1 hH d_law_590 (fun H locs hH => ?_) hcs
  refine lv_aload_n hx hb d_law_593 rfl (lv_at hl 2 rfl) ?_
  refine lw_ld (lv := []) (k := 1) X hH (lv_at hl 0 rfl) (lv_at hl 3 rfl) (by decide) (by omega) hL d_law_594 d_law_595 d_law_596 d_law_597 d_law_598 ?_
  refine lw_ld (lv := []) (k := 2) X hH (lv_at hl 0 rfl) (lv_at hl 3 rfl) (by decide) (by omega) hL d_law_599 d_law_600 d_law_601 d_law_602 d_law_603 ?_
  refine lw_cv (na := 2) (as := [jm_I (xs (i + 1)), jm_I (xs (i + 2))]) (st := [jm_cv α (jm_L x)]) (k := 21) X jm_o135 (jm_in (List.mem_of_getElem? (i := 818) (by decide +kernel))) (jm_in (List.mem_of_getElem? (i := 819) (by decide +kernel))) (jm_in (List.mem_of_getElem? (i := 820) (by decide +kernel))) (jm_in (List.mem_of_getElem? (i := 6) (by decide +kernel))) (by decide +kernel) rfl (Or.inl ⟨by decide, by decide⟩) (⟨trivial, ⟨trivial, trivial⟩⟩) rfl (Nat.le_of_ble_eq_true rfl) (Nat.le_of_ble_eq_true rfl) hl.1 r1 hH d_law_604 (fun H locs hH => ?_) hcs
  refine W.lcmp hx hb d_law_607 ?_
  refine lv_if_eq (tgt := 1181) hx hb d_law_608 (by decide) (fun _ => next A' σ2 _ _ hA' (c2.fr r3) r2 hH) (fun h9 => absurd (jm_lg_eq.mpr rfl) h9)
theorem lwc_14 (X : LX α cy D p s m meth c b L xs) (hL : L ≤ 3072) {i : Nat} (hi : i + 5 < L) {A : aS} (hA : okA A) (hc : cRel σ A) (hr : rRel σ A) (hH : jm_H α cy D (nA s) s σ H locs) (hl : lv_has ls 4 [(0, .ref b), (1, .ref (α 0 0)), (2, .ref (α 21 0)), (3, .int (nI i))]) (hcs : cells ≤ 600000 ∧ slots ≤ 7302250) (next : ∀ (A : aS) (σ : jm_S) (H : Heap) (locs : List Loc), okA A → cRel σ A → rRel σ A → jm_H α cy D (nA s) s σ H locs → W p l e room_1 s m #[Value.ref b] below meth c H locs cells slots Q (F0 m 1181 ls [])) : W p l e room_1 s m #[Value.ref b] below meth c H locs cells slots Q (F0 m 613 ls []) := by
  obtain ⟨hx, hb, -, -, -, -, -, -, -, -⟩ := X.1
  obtain ⟨v, A', hA', hcc, hrr⟩ := P_below hA (xs (i + 1))
  obtain ⟨σ1, c1, c2, c3⟩ := hcc σ hc
  obtain ⟨σ2, r1, r2, r3⟩ := hrr σ1 (hr.fr c3)
  obtain ⟨x, rfl⟩ := jm_call_I (M := jD_below) (by decide +kernel) c1
  refine lv_aload_n hx hb d_law_613 rfl (lv_at hl 1 rfl) ?_
  refine lw_ld (lv := []) (k := 1) X hH (lv_at hl 0 rfl) (lv_at hl 3 rfl) (by decide) (by omega) hL d_law_614 d_law_615 d_law_616 d_law_617 d_law_618 ?_
  refine lw_cv (na := 1) (as := [jm_I (xs (i + 1))]) (st := []) (k := 0) X jm_o54 (jm_in (List.mem_of_getElem? (i := 390) (by decide +kernel))) (jm_in (List.mem_of_getElem? (i := 391) (by decide +kernel))) (jm_in (List.mem_of_getElem? (i := 392) (by decide +kernel))) (jm_in (List.mem_of_getElem? (i := 1) (by decide +kernel))) (by decide +kernel) rfl (Or.inl ⟨by decide, by decide⟩) (⟨trivial, trivial⟩) rfl (Nat.le_of_ble_eq_true rfl) (Nat.le_of_ble_eq_true rfl) hl.1 c1 hH d_law_619 (fun H locs hH => ?_) hcs
  refine lv_aload_n hx hb d_law_622 rfl (lv_at hl 2 rfl) ?_
  refine lw_ld (lv := []) (k := 1) X hH (lv_at hl 0 rfl) (lv_at hl 3 rfl) (by decide) (by omega) hL d_law_623 d_law_624 d_law_625 d_law_626 d_law_627 ?_
  refine lw_cv (na := 1) (as := [jm_I (xs (i + 1))]) (st := [jm_cv α (jm_I x)]) (k := 21) X jm_o136 (jm_in (List.mem_of_getElem? (i := 838) (by decide +kernel))) (jm_in (List.mem_of_getElem? (i := 839) (by decide +kernel))) (jm_in (List.mem_of_getElem? (i := 840) (by decide +kernel))) (jm_in (List.mem_of_getElem? (i := 6) (by decide +kernel))) (by decide +kernel) rfl (Or.inl ⟨by decide, by decide⟩) (⟨trivial, trivial⟩) rfl (Nat.le_of_ble_eq_true rfl) (Nat.le_of_ble_eq_true rfl) hl.1 r1 hH d_law_628 (fun H locs hH => ?_) hcs
  refine lv_icmp_eq (tgt := 1181) hx hb d_law_631 (by decide) (fun _ => next A' σ2 _ _ hA' (c2.fr r3) r2 hH) (fun h9 => absurd rfl h9)
theorem lwc_15 (X : LX α cy D p s m meth c b L xs) (hL : L ≤ 3072) {i : Nat} (hi : i + 5 < L) {A : aS} (hA : okA A) (hc : cRel σ A) (hr : rRel σ A) (hH : jm_H α cy D (nA s) s σ H locs) (hl : lv_has ls 4 [(0, .ref b), (1, .ref (α 0 0)), (2, .ref (α 21 0)), (3, .int (nI i))]) (hcs : cells ≤ 600000 ∧ slots ≤ 7302250) (next : ∀ (A : aS) (σ : jm_S) (H : Heap) (locs : List Loc), okA A → cRel σ A → rRel σ A → jm_H α cy D (nA s) s σ H locs → W p l e room_1 s m #[Value.ref b] below meth c H locs cells slots Q (F0 m 1181 ls [])) : W p l e room_1 s m #[Value.ref b] below meth c H locs cells slots Q (F0 m 636 ls []) := by
  obtain ⟨hx, hb, -, -, -, -, -, -, -, -⟩ := X.1
  obtain ⟨v, A', hA', hcc, hrr⟩ := P_box hA (xs (i + 1))
  obtain ⟨σ1, c1, c2, c3⟩ := hcc σ hc
  obtain ⟨σ2, r1, r2, r3⟩ := hrr σ1 (hr.fr c3)
  obtain ⟨x, rfl⟩ := jm_call_I (M := jD_box) (by decide +kernel) c1
  refine lv_aload_n hx hb d_law_636 rfl (lv_at hl 1 rfl) ?_
  refine lw_ld (lv := []) (k := 1) X hH (lv_at hl 0 rfl) (lv_at hl 3 rfl) (by decide) (by omega) hL d_law_637 d_law_638 d_law_639 d_law_640 d_law_641 ?_
  refine lw_cv (na := 1) (as := [jm_I (xs (i + 1))]) (st := []) (k := 0) X jm_o55 (jm_in (List.mem_of_getElem? (i := 405) (by decide +kernel))) (jm_in (List.mem_of_getElem? (i := 406) (by decide +kernel))) (jm_in (List.mem_of_getElem? (i := 407) (by decide +kernel))) (jm_in (List.mem_of_getElem? (i := 1) (by decide +kernel))) (by decide +kernel) rfl (Or.inl ⟨by decide, by decide⟩) (⟨trivial, trivial⟩) rfl (Nat.le_of_ble_eq_true rfl) (Nat.le_of_ble_eq_true rfl) hl.1 c1 hH d_law_642 (fun H locs hH => ?_) hcs
  refine lv_aload_n hx hb d_law_645 rfl (lv_at hl 2 rfl) ?_
  refine lw_ld (lv := []) (k := 1) X hH (lv_at hl 0 rfl) (lv_at hl 3 rfl) (by decide) (by omega) hL d_law_646 d_law_647 d_law_648 d_law_649 d_law_650 ?_
  refine lw_cv (na := 1) (as := [jm_I (xs (i + 1))]) (st := [jm_cv α (jm_I x)]) (k := 21) X jm_o137 (jm_in (List.mem_of_getElem? (i := 850) (by decide +kernel))) (jm_in (List.mem_of_getElem? (i := 851) (by decide +kernel))) (jm_in (List.mem_of_getElem? (i := 852) (by decide +kernel))) (jm_in (List.mem_of_getElem? (i := 6) (by decide +kernel))) (by decide +kernel) rfl (Or.inl ⟨by decide, by decide⟩) (⟨trivial, trivial⟩) rfl (Nat.le_of_ble_eq_true rfl) (Nat.le_of_ble_eq_true rfl) hl.1 r1 hH d_law_651 (fun H locs hH => ?_) hcs
  refine lv_icmp_eq (tgt := 1181) hx hb d_law_654 (by decide) (fun _ => next A' σ2 _ _ hA' (c2.fr r3) r2 hH) (fun h9 => absurd rfl h9)
theorem lwc_16 (X : LX α cy D p s m meth c b L xs) (hL : L ≤ 3072) {i : Nat} (hi : i + 5 < L) {A : aS} (hA : okA A) (hc : cRel σ A) (hr : rRel σ A) (hH : jm_H α cy D (nA s) s σ H locs) (hl : lv_has ls 4 [(0, .ref b), (1, .ref (α 0 0)), (2, .ref (α 21 0)), (3, .int (nI i))]) (hcs : cells ≤ 600000 ∧ slots ≤ 7302250) (next : ∀ (A : aS) (σ : jm_S) (H : Heap) (locs : List Loc), okA A → cRel σ A → rRel σ A → jm_H α cy D (nA s) s σ H locs → W p l e room_1 s m #[Value.ref b] below meth c H locs cells slots Q (F0 m 1181 ls [])) : W p l e room_1 s m #[Value.ref b] below meth c H locs cells slots Q (F0 m 659 ls []) := by
  obtain ⟨hx, hb, -, -, -, -, -, -, -, -⟩ := X.1
  obtain ⟨v, A', hA', hcc, hrr⟩ := P_widest hA (xs (i + 1))
  obtain ⟨σ1, c1, c2, c3⟩ := hcc σ hc
  obtain ⟨σ2, r1, r2, r3⟩ := hrr σ1 (hr.fr c3)
  obtain ⟨x, rfl⟩ := jm_call_I (M := jD_widest) (by decide +kernel) c1
  refine lv_aload_n hx hb d_law_659 rfl (lv_at hl 1 rfl) ?_
  refine lw_ld (lv := []) (k := 1) X hH (lv_at hl 0 rfl) (lv_at hl 3 rfl) (by decide) (by omega) hL d_law_660 d_law_661 d_law_662 d_law_663 d_law_664 ?_
  refine lw_cv (na := 1) (as := [jm_I (xs (i + 1))]) (st := []) (k := 0) X jm_o56 (jm_in (List.mem_of_getElem? (i := 415) (by decide +kernel))) (jm_in (List.mem_of_getElem? (i := 416) (by decide +kernel))) (jm_in (List.mem_of_getElem? (i := 417) (by decide +kernel))) (jm_in (List.mem_of_getElem? (i := 1) (by decide +kernel))) (by decide +kernel) rfl (Or.inl ⟨by decide, by decide⟩) (⟨trivial, trivial⟩) rfl (Nat.le_of_ble_eq_true rfl) (Nat.le_of_ble_eq_true rfl) hl.1 c1 hH d_law_665 (fun H locs hH => ?_) hcs
  refine lv_aload_n hx hb d_law_668 rfl (lv_at hl 2 rfl) ?_
  refine lw_ld (lv := []) (k := 1) X hH (lv_at hl 0 rfl) (lv_at hl 3 rfl) (by decide) (by omega) hL d_law_669 d_law_670 d_law_671 d_law_672 d_law_673 ?_
  refine lw_cv (na := 1) (as := [jm_I (xs (i + 1))]) (st := [jm_cv α (jm_I x)]) (k := 21) X jm_o138 (jm_in (List.mem_of_getElem? (i := 858) (by decide +kernel))) (jm_in (List.mem_of_getElem? (i := 859) (by decide +kernel))) (jm_in (List.mem_of_getElem? (i := 860) (by decide +kernel))) (jm_in (List.mem_of_getElem? (i := 6) (by decide +kernel))) (by decide +kernel) rfl (Or.inl ⟨by decide, by decide⟩) (⟨trivial, trivial⟩) rfl (Nat.le_of_ble_eq_true rfl) (Nat.le_of_ble_eq_true rfl) hl.1 r1 hH d_law_674 (fun H locs hH => ?_) hcs
  refine lv_icmp_eq (tgt := 1181) hx hb d_law_677 (by decide) (fun _ => next A' σ2 _ _ hA' (c2.fr r3) r2 hH) (fun h9 => absurd rfl h9)
theorem lwc_17 (X : LX α cy D p s m meth c b L xs) (hL : L ≤ 3072) {i : Nat} (hi : i + 5 < L) {A : aS} (hA : okA A) (hc : cRel σ A) (hr : rRel σ A) (hH : jm_H α cy D (nA s) s σ H locs) (hl : lv_has ls 4 [(0, .ref b), (1, .ref (α 0 0)), (2, .ref (α 21 0)), (3, .int (nI i))]) (hcs : cells ≤ 600000 ∧ slots ≤ 7302250) (next : ∀ (A : aS) (σ : jm_S) (H : Heap) (locs : List Loc), okA A → cRel σ A → rRel σ A → jm_H α cy D (nA s) s σ H locs → W p l e room_1 s m #[Value.ref b] below meth c H locs cells slots Q (F0 m 1181 ls [])) : W p l e room_1 s m #[Value.ref b] below meth c H locs cells slots Q (F0 m 682 ls []) := by
  obtain ⟨hx, hb, -, -, -, -, -, -, -, -⟩ := X.1
  obtain ⟨v, A', hA', hcc, hrr⟩ := P_clear hA (xs (i + 1)) (xs (i + 2))
  obtain ⟨σ1, c1, c2, c3⟩ := hcc σ hc
  obtain ⟨σ2, r1, r2, r3⟩ := hrr σ1 (hr.fr c3)
  obtain ⟨x, rfl⟩ := jm_call_I (M := jD_clear) (by decide +kernel) c1
  refine lv_aload_n hx hb d_law_682 rfl (lv_at hl 1 rfl) ?_
  refine lw_ld (lv := []) (k := 1) X hH (lv_at hl 0 rfl) (lv_at hl 3 rfl) (by decide) (by omega) hL d_law_683 d_law_684 d_law_685 d_law_686 d_law_687 ?_
  refine lw_ld (lv := []) (k := 2) X hH (lv_at hl 0 rfl) (lv_at hl 3 rfl) (by decide) (by omega) hL d_law_688 d_law_689 d_law_690 d_law_691 d_law_692 ?_
  refine lw_cv (na := 2) (as := [jm_I (xs (i + 1)), jm_I (xs (i + 2))]) (st := []) (k := 0) X jm_o57 (jm_in (List.mem_of_getElem? (i := 434) (by decide +kernel))) (jm_in (List.mem_of_getElem? (i := 435) (by decide +kernel))) (jm_in (List.mem_of_getElem? (i := 436) (by decide +kernel))) (jm_in (List.mem_of_getElem? (i := 1) (by decide +kernel))) (by decide +kernel) rfl (Or.inl ⟨by decide, by decide⟩) (⟨trivial, ⟨trivial, trivial⟩⟩) rfl (Nat.le_of_ble_eq_true rfl) (Nat.le_of_ble_eq_true rfl) hl.1 c1 hH d_law_693 (fun H locs hH => ?_) hcs
  refine lv_aload_n hx hb d_law_696 rfl (lv_at hl 2 rfl) ?_
  refine lw_ld (lv := []) (k := 1) X hH (lv_at hl 0 rfl) (lv_at hl 3 rfl) (by decide) (by omega) hL d_law_697 d_law_698 d_law_699 d_law_700 d_law_701 ?_
  refine lw_ld (lv := []) (k := 2) X hH (lv_at hl 0 rfl) (lv_at hl 3 rfl) (by decide) (by omega) hL d_law_702 d_law_703 d_law_704 d_law_705 d_law_706 ?_
  refine lw_cv (na := 2) (as := [jm_I (xs (i + 1)), jm_I (xs (i + 2))]) (st := [jm_cv α (jm_I x)]) (k := 21) X jm_o140 (jm_in (List.mem_of_getElem? (i := 866) (by decide +kernel))) (jm_in (List.mem_of_getElem? (i := 867) (by decide +kernel))) (jm_in (List.mem_of_getElem? (i := 868) (by decide +kernel))) (jm_in (List.mem_of_getElem? (i := 6) (by decide +kernel))) (by decide +kernel) rfl (Or.inl ⟨by decide, by decide⟩) (⟨trivial, ⟨trivial, trivial⟩⟩) rfl (Nat.le_of_ble_eq_true rfl) (Nat.le_of_ble_eq_true rfl) hl.1 r1 hH d_law_707 (fun H locs hH => ?_) hcs
  refine lv_icmp_eq (tgt := 1181) hx hb d_law_710 (by decide) (fun _ => next A' σ2 _ _ hA' (c2.fr r3) r2 hH) (fun h9 => absurd rfl h9)
theorem lwc_18 (X : LX α cy D p s m meth c b L xs) (hL : L ≤ 3072) {i : Nat} (hi : i + 5 < L) {A : aS} (hA : okA A) (hc : cRel σ A) (hr : rRel σ A) (hH : jm_H α cy D (nA s) s σ H locs) (hl : lv_has ls 4 [(0, .ref b), (1, .ref (α 0 0)), (2, .ref (α 21 0)), (3, .int (nI i))]) (hcs : cells ≤ 600000 ∧ slots ≤ 7302250) (next : ∀ (A : aS) (σ : jm_S) (H : Heap) (locs : List Loc), okA A → cRel σ A → rRel σ A → jm_H α cy D (nA s) s σ H locs → W p l e room_1 s m #[Value.ref b] below meth c H locs cells slots Q (F0 m 1181 ls [])) : W p l e room_1 s m #[Value.ref b] below meth c H locs cells slots Q (F0 m 715 ls []) := by
  obtain ⟨hx, hb, -, -, -, -, -, -, -, -⟩ := X.1
  obtain ⟨v, A', hA', hcc, hrr⟩ := P_stiffer hA (xs (i + 1)) (xs (i + 2))
  obtain ⟨σ1, c1, c2, c3⟩ := hcc σ hc
  obtain ⟨σ2, r1, r2, r3⟩ := hrr σ1 (hr.fr c3)
  obtain ⟨x, rfl⟩ := jm_call_I (M := jD_stiffer) (by decide +kernel) c1
  refine lv_aload_n hx hb d_law_715 rfl (lv_at hl 1 rfl) ?_
  refine lw_ld (lv := []) (k := 1) X hH (lv_at hl 0 rfl) (lv_at hl 3 rfl) (by decide) (by omega) hL d_law_716 d_law_717 d_law_718 d_law_719 d_law_720 ?_
  refine lw_ld (lv := []) (k := 2) X hH (lv_at hl 0 rfl) (lv_at hl 3 rfl) (by decide) (by omega) hL d_law_721 d_law_722 d_law_723 d_law_724 d_law_725 ?_
  refine lw_cv (na := 2) (as := [jm_I (xs (i + 1)), jm_I (xs (i + 2))]) (st := []) (k := 0) X jm_o58 (jm_in (List.mem_of_getElem? (i := 443) (by decide +kernel))) (jm_in (List.mem_of_getElem? (i := 444) (by decide +kernel))) (jm_in (List.mem_of_getElem? (i := 445) (by decide +kernel))) (jm_in (List.mem_of_getElem? (i := 1) (by decide +kernel))) (by decide +kernel) rfl (Or.inl ⟨by decide, by decide⟩) (⟨trivial, ⟨trivial, trivial⟩⟩) rfl (Nat.le_of_ble_eq_true rfl) (Nat.le_of_ble_eq_true rfl) hl.1 c1 hH d_law_726 (fun H locs hH => ?_) hcs
  refine lv_aload_n hx hb d_law_729 rfl (lv_at hl 2 rfl) ?_
  refine lw_ld (lv := []) (k := 1) X hH (lv_at hl 0 rfl) (lv_at hl 3 rfl) (by decide) (by omega) hL d_law_730 d_law_731 d_law_732 d_law_733 d_law_734 ?_
  refine lw_ld (lv := []) (k := 2) X hH (lv_at hl 0 rfl) (lv_at hl 3 rfl) (by decide) (by omega) hL d_law_735 d_law_736 d_law_737 d_law_738 d_law_739 ?_
  refine lw_cv (na := 2) (as := [jm_I (xs (i + 1)), jm_I (xs (i + 2))]) (st := [jm_cv α (jm_I x)]) (k := 21) X jm_o141 (jm_in (List.mem_of_getElem? (i := 874) (by decide +kernel))) (jm_in (List.mem_of_getElem? (i := 875) (by decide +kernel))) (jm_in (List.mem_of_getElem? (i := 876) (by decide +kernel))) (jm_in (List.mem_of_getElem? (i := 6) (by decide +kernel))) (by decide +kernel) rfl (Or.inl ⟨by decide, by decide⟩) (⟨trivial, ⟨trivial, trivial⟩⟩) rfl (Nat.le_of_ble_eq_true rfl) (Nat.le_of_ble_eq_true rfl) hl.1 r1 hH d_law_740 (fun H locs hH => ?_) hcs
  refine lv_icmp_eq (tgt := 1181) hx hb d_law_743 (by decide) (fun _ => next A' σ2 _ _ hA' (c2.fr r3) r2 hH) (fun h9 => absurd rfl h9)
theorem lwc_19 (X : LX α cy D p s m meth c b L xs) (hL : L ≤ 3072) {i : Nat} (hi : i + 5 < L) {A : aS} (hA : okA A) (hc : cRel σ A) (hr : rRel σ A) (hH : jm_H α cy D (nA s) s σ H locs) (hl : lv_has ls 4 [(0, .ref b), (1, .ref (α 0 0)), (2, .ref (α 21 0)), (3, .int (nI i))]) (hcs : cells ≤ 600000 ∧ slots ≤ 7302250) (next : ∀ (A : aS) (σ : jm_S) (H : Heap) (locs : List Loc), okA A → cRel σ A → rRel σ A → jm_H α cy D (nA s) s σ H locs → W p l e room_1 s m #[Value.ref b] below meth c H locs cells slots Q (F0 m 1181 ls [])) : W p l e room_1 s m #[Value.ref b] below meth c H locs cells slots Q (F0 m 748 ls []) := by
  obtain ⟨hx, hb, -, -, -, -, -, -, -, -⟩ := X.1
  obtain ⟨v, A', hA', hcc, hrr⟩ := P_sets hA (xs (i + 1)) (xs (i + 2))
  obtain ⟨σ1, c1, c2, c3⟩ := hcc σ hc
  obtain ⟨σ2, r1, r2, r3⟩ := hrr σ1 (hr.fr c3)
  obtain ⟨x, rfl⟩ := jm_call_I (M := jD_sets) (by decide +kernel) c1
  refine lv_aload_n hx hb d_law_748 rfl (lv_at hl 1 rfl) ?_
  refine lw_ld (lv := []) (k := 1) X hH (lv_at hl 0 rfl) (lv_at hl 3 rfl) (by decide) (by omega) hL d_law_749 d_law_750 d_law_751 d_law_752 d_law_753 ?_
  refine lw_ld (lv := []) (k := 2) X hH (lv_at hl 0 rfl) (lv_at hl 3 rfl) (by decide) (by omega) hL d_law_754 d_law_755 d_law_756 d_law_757 d_law_758 ?_
  refine lw_cv (na := 2) (as := [jm_I (xs (i + 1)), jm_I (xs (i + 2))]) (st := []) (k := 0) X jm_o59 (jm_in (List.mem_of_getElem? (i := 451) (by decide +kernel))) (jm_in (List.mem_of_getElem? (i := 452) (by decide +kernel))) (jm_in (List.mem_of_getElem? (i := 453) (by decide +kernel))) (jm_in (List.mem_of_getElem? (i := 1) (by decide +kernel))) (by decide +kernel) rfl (Or.inl ⟨by decide, by decide⟩) (⟨trivial, ⟨trivial, trivial⟩⟩) rfl (Nat.le_of_ble_eq_true rfl) (Nat.le_of_ble_eq_true rfl) hl.1 c1 hH d_law_759 (fun H locs hH => ?_) hcs
  refine lv_aload_n hx hb d_law_762 rfl (lv_at hl 2 rfl) ?_
  refine lw_ld (lv := []) (k := 1) X hH (lv_at hl 0 rfl) (lv_at hl 3 rfl) (by decide) (by omega) hL d_law_763 d_law_764 d_law_765 d_law_766 d_law_767 ?_
  refine lw_ld (lv := []) (k := 2) X hH (lv_at hl 0 rfl) (lv_at hl 3 rfl) (by decide) (by omega) hL d_law_768 d_law_769 d_law_770 d_law_771 d_law_772 ?_
  refine lw_cv (na := 2) (as := [jm_I (xs (i + 1)), jm_I (xs (i + 2))]) (st := [jm_cv α (jm_I x)]) (k := 21) X jm_o142 (jm_in (List.mem_of_getElem? (i := 883) (by decide +kernel))) (jm_in (List.mem_of_getElem? (i := 884) (by decide +kernel))) (jm_in (List.mem_of_getElem? (i := 885) (by decide +kernel))) (jm_in (List.mem_of_getElem? (i := 6) (by decide +kernel))) (by decide +kernel) rfl (Or.inl ⟨by decide, by decide⟩) (⟨trivial, ⟨trivial, trivial⟩⟩) rfl (Nat.le_of_ble_eq_true rfl) (Nat.le_of_ble_eq_true rfl) hl.1 r1 hH d_law_773 (fun H locs hH => ?_) hcs
  refine lv_icmp_eq (tgt := 1181) hx hb d_law_776 (by decide) (fun _ => next A' σ2 _ _ hA' (c2.fr r3) r2 hH) (fun h9 => absurd rfl h9)
theorem lwc_20 (X : LX α cy D p s m meth c b L xs) (hL : L ≤ 3072) {i : Nat} (hi : i + 5 < L) {A : aS} (hA : okA A) (hc : cRel σ A) (hr : rRel σ A) (hH : jm_H α cy D (nA s) s σ H locs) (hl : lv_has ls 4 [(0, .ref b), (1, .ref (α 0 0)), (2, .ref (α 21 0)), (3, .int (nI i))]) (hcs : cells ≤ 600000 ∧ slots ≤ 7302250) (next : ∀ (A : aS) (σ : jm_S) (H : Heap) (locs : List Loc), okA A → cRel σ A → rRel σ A → jm_H α cy D (nA s) s σ H locs → W p l e room_1 s m #[Value.ref b] below meth c H locs cells slots Q (F0 m 1181 ls [])) : W p l e room_1 s m #[Value.ref b] below meth c H locs cells slots Q (F0 m 781 ls []) := by
  obtain ⟨hx, hb, -, -, -, -, -, -, -, -⟩ := X.1
  obtain ⟨v, A', hA', hcc, hrr⟩ := P_share hA (xs (i + 1)) (xs (i + 2))
  obtain ⟨σ1, c1, c2, c3⟩ := hcc σ hc
  obtain ⟨σ2, r1, r2, r3⟩ := hrr σ1 (hr.fr c3)
  obtain ⟨x, rfl⟩ := jm_call_I (M := jD_share) (by decide +kernel) c1
  refine lv_aload_n hx hb d_law_781 rfl (lv_at hl 1 rfl) ?_
  refine lw_ld (lv := []) (k := 1) X hH (lv_at hl 0 rfl) (lv_at hl 3 rfl) (by decide) (by omega) hL d_law_782 d_law_783 d_law_784 d_law_785 d_law_786 ?_
  refine lw_ld (lv := []) (k := 2) X hH (lv_at hl 0 rfl) (lv_at hl 3 rfl) (by decide) (by omega) hL d_law_787 d_law_788 d_law_789 d_law_790 d_law_791 ?_
  refine lw_cv (na := 2) (as := [jm_I (xs (i + 1)), jm_I (xs (i + 2))]) (st := []) (k := 0) X jm_o60 (jm_in (List.mem_of_getElem? (i := 459) (by decide +kernel))) (jm_in (List.mem_of_getElem? (i := 460) (by decide +kernel))) (jm_in (List.mem_of_getElem? (i := 461) (by decide +kernel))) (jm_in (List.mem_of_getElem? (i := 1) (by decide +kernel))) (by decide +kernel) rfl (Or.inl ⟨by decide, by decide⟩) (⟨trivial, ⟨trivial, trivial⟩⟩) rfl (Nat.le_of_ble_eq_true rfl) (Nat.le_of_ble_eq_true rfl) hl.1 c1 hH d_law_792 (fun H locs hH => ?_) hcs
  refine lv_aload_n hx hb d_law_795 rfl (lv_at hl 2 rfl) ?_
  refine lw_ld (lv := []) (k := 1) X hH (lv_at hl 0 rfl) (lv_at hl 3 rfl) (by decide) (by omega) hL d_law_796 d_law_797 d_law_798 d_law_799 d_law_800 ?_
  refine lw_ld (lv := []) (k := 2) X hH (lv_at hl 0 rfl) (lv_at hl 3 rfl) (by decide) (by omega) hL d_law_801 d_law_802 d_law_803 d_law_804 d_law_805 ?_
  refine lw_cv (na := 2) (as := [jm_I (xs (i + 1)), jm_I (xs (i + 2))]) (st := [jm_cv α (jm_I x)]) (k := 21) X jm_o144 (jm_in (List.mem_of_getElem? (i := 891) (by decide +kernel))) (jm_in (List.mem_of_getElem? (i := 892) (by decide +kernel))) (jm_in (List.mem_of_getElem? (i := 893) (by decide +kernel))) (jm_in (List.mem_of_getElem? (i := 6) (by decide +kernel))) (by decide +kernel) rfl (Or.inl ⟨by decide, by decide⟩) (⟨trivial, ⟨trivial, trivial⟩⟩) rfl (Nat.le_of_ble_eq_true rfl) (Nat.le_of_ble_eq_true rfl) hl.1 r1 hH d_law_806 (fun H locs hH => ?_) hcs
  refine lv_icmp_eq (tgt := 1181) hx hb d_law_809 (by decide) (fun _ => next A' σ2 _ _ hA' (c2.fr r3) r2 hH) (fun h9 => absurd rfl h9)
theorem lwc_21 (X : LX α cy D p s m meth c b L xs) (hL : L ≤ 3072) {i : Nat} (hi : i + 5 < L) {A : aS} (hA : okA A) (hc : cRel σ A) (hr : rRel σ A) (hH : jm_H α cy D (nA s) s σ H locs) (hl : lv_has ls 4 [(0, .ref b), (1, .ref (α 0 0)), (2, .ref (α 21 0)), (3, .int (nI i))]) (hcs : cells ≤ 600000 ∧ slots ≤ 7302250) (next : ∀ (A : aS) (σ : jm_S) (H : Heap) (locs : List Loc), okA A → cRel σ A → rRel σ A → jm_H α cy D (nA s) s σ H locs → W p l e room_1 s m #[Value.ref b] below meth c H locs cells slots Q (F0 m 1181 ls [])) : W p l e room_1 s m #[Value.ref b] below meth c H locs cells slots Q (F0 m 814 ls []) := by
  obtain ⟨hx, hb, -, -, -, -, -, -, -, -⟩ := X.1
  obtain ⟨v, A', hA', hcc, hrr⟩ := P_byTurns hA (xs (i + 1))
  obtain ⟨σ1, c1, c2, c3⟩ := hcc σ hc
  obtain ⟨σ2, r1, r2, r3⟩ := hrr σ1 (hr.fr c3)
  obtain ⟨x, rfl⟩ := jm_call_I (M := jD_byTurns) (by decide +kernel) c1
  refine lv_aload_n hx hb d_law_814 rfl (lv_at hl 1 rfl) ?_
  refine lw_ld (lv := []) (k := 1) X hH (lv_at hl 0 rfl) (lv_at hl 3 rfl) (by decide) (by omega) hL d_law_815 d_law_816 d_law_817 d_law_818 d_law_819 ?_
  refine lw_cv (na := 1) (as := [jm_I (xs (i + 1))]) (st := []) (k := 0) X jm_o61 (jm_in (List.mem_of_getElem? (i := 463) (by decide +kernel))) (jm_in (List.mem_of_getElem? (i := 464) (by decide +kernel))) (jm_in (List.mem_of_getElem? (i := 465) (by decide +kernel))) (jm_in (List.mem_of_getElem? (i := 1) (by decide +kernel))) (by decide +kernel) rfl (Or.inl ⟨by decide, by decide⟩) (⟨trivial, trivial⟩) rfl (Nat.le_of_ble_eq_true rfl) (Nat.le_of_ble_eq_true rfl) hl.1 c1 hH d_law_820 (fun H locs hH => ?_) hcs
  refine lv_aload_n hx hb d_law_823 rfl (lv_at hl 2 rfl) ?_
  refine lw_ld (lv := []) (k := 1) X hH (lv_at hl 0 rfl) (lv_at hl 3 rfl) (by decide) (by omega) hL d_law_824 d_law_825 d_law_826 d_law_827 d_law_828 ?_
  refine lw_cv (na := 1) (as := [jm_I (xs (i + 1))]) (st := [jm_cv α (jm_I x)]) (k := 21) X jm_o146 (jm_in (List.mem_of_getElem? (i := 900) (by decide +kernel))) (jm_in (List.mem_of_getElem? (i := 901) (by decide +kernel))) (jm_in (List.mem_of_getElem? (i := 902) (by decide +kernel))) (jm_in (List.mem_of_getElem? (i := 6) (by decide +kernel))) (by decide +kernel) rfl (Or.inl ⟨by decide, by decide⟩) (⟨trivial, trivial⟩) rfl (Nat.le_of_ble_eq_true rfl) (Nat.le_of_ble_eq_true rfl) hl.1 r1 hH d_law_829 (fun H locs hH => ?_) hcs
  refine lv_icmp_eq (tgt := 1181) hx hb d_law_832 (by decide) (fun _ => next A' σ2 _ _ hA' (c2.fr r3) r2 hH) (fun h9 => absurd rfl h9)
end LC
