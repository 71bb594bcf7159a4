-- THE LAW: its loop
section LP
variable {p : Program} {l : Launch} {e : Env} {s : State} {m : MethodId} {below : List Frame} {meth : Method} {c : Code} {b L : Nat} {xs : Nat → Int32} {α : Nat → Nat → Nat} {cy : jm_C} {D : va_G} {H : Heap} {locs : List Loc} {ls : Array Slot} {σ : jm_S} {cells slots : Nat} {Q : State → Prop}
theorem lw_exit (X : LX α cy D p s m meth c b L xs) (hL : L ≤ 3072) (hcs : cells ≤ 600000 ∧ slots ≤ 7302250) {i : Nat} (hi4 : i ≤ 4000) (hi : ¬ i + 6 ≤ L) (hH : jm_H α cy D (nA s) s σ H locs) (hl : lv_has ls 4 [(0, .ref b), (1, .ref (α 0 0)), (2, .ref (α 21 0)), (3, .int (nI i))]) : W p l e room_1 s m #[Value.ref b] below meth c H locs cells slots (lw_Z below #[Value.ref b] s) (F0 m 18 ls []) := by
  obtain ⟨hx, hb, hr, hml, hown, hts, hX, hbl, hlocks, hgv⟩ := X.1
  have hsub : (nI L - 6).toInt = (L : Int) - 6 := pk_sub_toInt (a := L) (b := 6) (by omega) (by omega)
  refine lv_iload_n hx hb d_law_18 rfl (lv_at hl 3 rfl) ?_
  refine lv_aload_n hx hb d_law_19 rfl (lv_at hl 0 rfl) ?_
  refine va_slen hx hb hX hbl (show ¬ nA s b from Nat.not_le.mpr hbl) hH.2.2 d_law_20 ?_
  refine lv_bipush (v := 6) hx hb d_law_21 (by decide) ?_
  refine lv_isub hx hb d_law_23 ?_
  refine lv_icmp_gt (tgt := 1187) hx hb d_law_24 (by decide) (fun _ => ?_) (fun h9 => absurd (show nI L - 6 < nI i by rw [jm_ti32, hsub, nI_toInt (by omega)]; omega) h9)
  refine lv_iconst (v := 1) hx hb d_law_1187 (by decide) ?_
  refine va_forget (fun q hq => hH.2.2.2.2 q hq) ?_
  refine W.widen (k := 600000) (n := 7302250) hcs.1 hcs.2 ?_
  exact lw_ret hx hb hr hlocks d_law_1188
set_option maxHeartbeats 4000000 in
theorem lw_loop (X : LX α cy D p s m meth c b L xs) (hL : L ≤ 3072) (hcs : cells ≤ 600000 ∧ slots ≤ 7302250) : ∀ (n i : Nat) (A : aS) (σ : jm_S) (H : Heap) (locs : List Loc) (ls : Array Slot), L < i + 6 * n → i ≤ 4000 → okA A → cRel σ A → rRel σ A → jm_H α cy D (nA s) s σ H locs → lv_has ls 4 [(0, .ref b), (1, .ref (α 0 0)), (2, .ref (α 21 0)), (3, .int (nI i))] → W p l e room_1 s m #[Value.ref b] below meth c H locs cells slots (lw_Z below #[Value.ref b] s) (F0 m 18 ls []) := by
  have X0 := X
  obtain ⟨hx, hb, hr0, hml, hown, hts, hX, hbl, hlocks, hgv⟩ := X.1
  intro n
  induction n with
  | zero =>
    intro i A σ H locs ls hn hi4 hA hc hr hH hl
    exact lw_exit X0 hL hcs hi4 (by omega) hH hl
  | succ n ih =>
    intro i A σ H locs ls hn hi4 hA hc hr hH hl
    by_cases hi : i + 6 ≤ L
    case neg => exact lw_exit X0 hL hcs hi4 hi hH hl
    have hsub : (nI L - 6).toInt = (L : Int) - 6 := pk_sub_toInt (a := L) (b := 6) (by omega) (by omega)
    refine lv_iload_n hx hb d_law_18 rfl (lv_at hl 3 rfl) ?_
    refine lv_aload_n hx hb d_law_19 rfl (lv_at hl 0 rfl) ?_
    refine va_slen hx hb hX hbl (show ¬ nA s b from Nat.not_le.mpr hbl) hH.2.2 d_law_20 ?_
    refine lv_bipush (v := 6) hx hb d_law_21 (by decide) ?_
    refine lv_isub hx hb d_law_23 ?_
    refine lv_icmp_gt (tgt := 1187) hx hb d_law_24 (by decide) (fun h9 => absurd h9 (show ¬ nI L - 6 < nI i by rw [jm_ti32, hsub, nI_toInt (by omega)]; omega)) (fun _ => ?_)
    refine lv_aload_n hx hb d_law_27 rfl (lv_at hl 0 rfl) ?_
    refine lv_iload_n hx hb d_law_28 rfl (lv_at hl 3 rfl) ?_
    refine va_sld hx hb hX hbl (show ¬ nA s b from Nat.not_le.mpr hbl) hH.2.2 (i := nI i) (vp_in_nI (by omega) (by omega)) d_law_29 ?_
    refine lv_bipush (v := 63) hx hb d_law_30 (by decide) ?_
    refine lv_iand hx hb d_law_32 ?_
    refine lv_topi (fun x ex => ?_)
    have next : ∀ (A : aS) (σ : jm_S) (H : Heap) (locs : List Loc), okA A → cRel σ A → rRel σ A → jm_H α cy D (nA s) s σ H locs → W p l e room_1 s m #[Value.ref b] below meth c H locs cells slots (lw_Z below #[Value.ref b] s) (F0 m 1181 ls []) := by
      intro A σ H locs hA hc hr hH
      refine lv_iinc (v := nI (i + 6)) (lv' := [(3, .int (nI (i + 6))), (0, .ref b), (1, .ref (α 0 0)), (2, .ref (α 21 0))]) hx hb d_law_1181 hl (k := 3) rfl (nI_add i 6) (by decide) rfl (fun ls hl => ?_)
      refine lv_goto (tgt := 18) hx hb d_law_1184 (by decide) ?_
      exact ih (i + 6) A σ H locs ls (by omega) (by omega) hA hc hr hH (lv_sub hl [1, 2, 3, 0] rfl)
    by_cases hx33 : 0 ≤ x.toInt ∧ x.toInt < 33
    case neg =>
      refine lv_tableOut (tgt := 1181) hx hb d_law_33 (by omega) (by decide) ?_
      exact next A σ H locs hA hc hr hH
    obtain ⟨j, hj, ej⟩ := jm_nI_of (x := x) (n := 33) hx33.1 (by omega)
    clear ex
    subst ej
    rcases (show j = 0 ∨ j = 1 ∨ j = 2 ∨ j = 3 ∨ j = 4 ∨ j = 5 ∨ j = 6 ∨ j = 7 ∨ j = 8 ∨ j = 9 ∨ j = 10 ∨ j = 11 ∨ j = 12 ∨ j = 13 ∨ j = 14 ∨ j = 15 ∨ j = 16 ∨ j = 17 ∨ j = 18 ∨ j = 19 ∨ j = 20 ∨ j = 21 ∨ j = 22 ∨ j = 23 ∨ j = 24 ∨ j = 25 ∨ j = 26 ∨ j = 27 ∨ j = 28 ∨ j = 29 ∨ j = 30 ∨ j = 31 ∨ j = 32 by omega) with rfl | rfl | rfl | rfl | rfl | rfl | rfl | rfl | rfl | rfl | rfl | rfl | rfl | rfl | rfl | rfl | rfl | rfl | rfl | rfl | rfl | rfl | rfl | rfl | rfl | rfl | rfl | rfl | rfl | rfl | rfl | rfl | rfl
    · exact lv_tableIn (off := 147) (tgt := 180) hx hb d_law_33 (by decide) (by decide) rfl (by decide) (lwc_0 X0 hL (by omega) hA hc hr hH hl hcs next)
    · exact lv_tableIn (off := 190) (tgt := 223) hx hb d_law_33 (by decide) (by decide) rfl (by decide) (lwc_1 X0 hL (by omega) hA hc hr hH hl hcs next)
    · exact lv_tableIn (off := 233) (tgt := 266) hx hb d_law_33 (by decide) (by decide) rfl (by decide) (lwc_2 X0 hL (by omega) hA hc hr hH hl hcs next)
    · exact lv_tableIn (off := 296) (tgt := 329) hx hb d_law_33 (by decide) (by decide) rfl (by decide) (lwc_3 X0 hL (by omega) hA hc hr hH hl hcs next)
    · exact lv_tableIn (off := 319) (tgt := 352) hx hb d_law_33 (by decide) (by decide) rfl (by decide) (lwc_4 X0 hL (by omega) hA hc hr hH hl hcs next)
    · exact lv_tableIn (off := 342) (tgt := 375) hx hb d_law_33 (by decide) (by decide) rfl (by decide) (lwc_5 X0 hL (by omega) hA hc hr hH hl hcs next)
    · exact lv_tableIn (off := 355) (tgt := 388) hx hb d_law_33 (by decide) (by decide) rfl (by decide) (lwc_6 X0 hL (by omega) hA hc hr hH hl hcs next)
    · exact lv_tableIn (off := 368) (tgt := 401) hx hb d_law_33 (by decide) (by decide) rfl (by decide) (lwc_7 X0 hL (by omega) hA hc hr hH hl hcs next)
    · exact lv_tableIn (off := 381) (tgt := 414) hx hb d_law_33 (by decide) (by decide) rfl (by decide) (lwc_8 X0 hL (by omega) hA hc hr hH hl hcs next)
    · exact lv_tableIn (off := 424) (tgt := 457) hx hb d_law_33 (by decide) (by decide) rfl (by decide) (lwc_9 X0 hL (by omega) hA hc hr hH hl hcs next)
    · exact lv_tableIn (off := 457) (tgt := 490) hx hb d_law_33 (by decide) (by decide) rfl (by decide) (lwc_10 X0 hL (by omega) hA hc hr hH hl hcs next)
    · exact lv_tableIn (off := 480) (tgt := 513) hx hb d_law_33 (by decide) (by decide) rfl (by decide) (lwc_11 X0 hL (by omega) hA hc hr hH hl hcs next)
    · exact lv_tableIn (off := 513) (tgt := 546) hx hb d_law_33 (by decide) (by decide) rfl (by decide) (lwc_12 X0 hL (by omega) hA hc hr hH hl hcs next)
    · exact lv_tableIn (off := 546) (tgt := 579) hx hb d_law_33 (by decide) (by decide) rfl (by decide) (lwc_13 X0 hL (by omega) hA hc hr hH hl hcs next)
    · exact lv_tableIn (off := 580) (tgt := 613) hx hb d_law_33 (by decide) (by decide) rfl (by decide) (lwc_14 X0 hL (by omega) hA hc hr hH hl hcs next)
    · exact lv_tableIn (off := 603) (tgt := 636) hx hb d_law_33 (by decide) (by decide) rfl (by decide) (lwc_15 X0 hL (by omega) hA hc hr hH hl hcs next)
    · exact lv_tableIn (off := 626) (tgt := 659) hx hb d_law_33 (by decide) (by decide) rfl (by decide) (lwc_16 X0 hL (by omega) hA hc hr hH hl hcs next)
    · exact lv_tableIn (off := 649) (tgt := 682) hx hb d_law_33 (by decide) (by decide) rfl (by decide) (lwc_17 X0 hL (by omega) hA hc hr hH hl hcs next)
    · exact lv_tableIn (off := 682) (tgt := 715) hx hb d_law_33 (by decide) (by decide) rfl (by decide) (lwc_18 X0 hL (by omega) hA hc hr hH hl hcs next)
    · exact lv_tableIn (off := 715) (tgt := 748) hx hb d_law_33 (by decide) (by decide) rfl (by decide) (lwc_19 X0 hL (by omega) hA hc hr hH hl hcs next)
    · exact lv_tableIn (off := 748) (tgt := 781) hx hb d_law_33 (by decide) (by decide) rfl (by decide) (lwc_20 X0 hL (by omega) hA hc hr hH hl hcs next)
    · exact lv_tableIn (off := 781) (tgt := 814) hx hb d_law_33 (by decide) (by decide) rfl (by decide) (lwc_21 X0 hL (by omega) hA hc hr hH hl hcs next)
    · exact lv_tableIn (off := 804) (tgt := 837) hx hb d_law_33 (by decide) (by decide) rfl (by decide) (lwc_22 X0 hL (by omega) hA hc hr hH hl hcs next)
    · exact lv_tableIn (off := 867) (tgt := 900) hx hb d_law_33 (by decide) (by decide) rfl (by decide) (lwc_23 X0 hL (by omega) hA hc hr hH hl hcs next)
    · exact lv_tableIn (off := 911) (tgt := 944) hx hb d_law_33 (by decide) (by decide) rfl (by decide) (lwc_24 X0 hL (by omega) hA hc hr hH hl hcs next)
    · exact lv_tableIn (off := 954) (tgt := 987) hx hb d_law_33 (by decide) (by decide) rfl (by decide) (lwc_25 X0 hL (by omega) hA hc hr hH hl hcs next)
    · exact lv_tableIn (off := 977) (tgt := 1010) hx hb d_law_33 (by decide) (by decide) rfl (by decide) (lwc_26 X0 hL (by omega) hA hc hr hH hl hcs next)
    · exact lv_tableIn (off := 1000) (tgt := 1033) hx hb d_law_33 (by decide) (by decide) rfl (by decide) (lwc_27 X0 hL (by omega) hA hc hr hH hl hcs next)
    · exact lv_tableIn (off := 1023) (tgt := 1056) hx hb d_law_33 (by decide) (by decide) rfl (by decide) (lwc_28 X0 hL (by omega) hA hc hr hH hl hcs next)
    · exact lv_tableIn (off := 1056) (tgt := 1089) hx hb d_law_33 (by decide) (by decide) rfl (by decide) (lwc_29 X0 hL (by omega) hA hc hr hH hl hcs next)
    · exact lv_tableIn (off := 1089) (tgt := 1122) hx hb d_law_33 (by decide) (by decide) rfl (by decide) (lwc_30 X0 hL (by omega) hA hc hr hH hl hcs next)
    · exact lv_tableIn (off := 1112) (tgt := 1145) hx hb d_law_33 (by decide) (by decide) rfl (by decide) (lwc_31 X0 hL (by omega) hA hc hr hH hl hcs next)
    · exact lv_tableIn (off := 1135) (tgt := 1168) hx hb d_law_33 (by decide) (by decide) rfl (by decide) (lwc_32 X0 hL (by omega) hA hc hr hH hl hcs next)
end LP
