theorem jm_ax_ret {rec : Nat → jm_F → Option jm_Rs} {d : Nat} {st : List jm_V} {z : jm_Rs} {M : jm_M} {σ : jm_S} (e : jm_ax rec d (jm_ret M st σ) = some z) : ∃ x, st = [jm_I x] ∧ (some (jm_I x), σ) = z ∧ (M.2.2.2 = true → x = 0 ∨ x = 1) := by
  unfold jm_ret at e
  split at e
  · next x =>
    have e1 : cond (cond M.2.2.2 (jm_b01 x) true) (some ((some (jm_I x), σ) : jm_Rs)) none = some z := e
    cases hbz : M.2.2.2 with
    | false =>
      rw [hbz] at e1
      exact ⟨x, rfl, Option.some.inj e1, fun h => by cases h⟩
    | true =>
      rw [hbz] at e1
      cases h01 : jm_b01 x with
      | true =>
        rw [h01] at e1
        exact ⟨x, rfl, Option.some.inj e1, fun _ => of_decide_eq_true h01⟩
      | false => rw [h01] at e1; cases e1
  · cases e
set_option maxHeartbeats 1000000 in
set_option maxRecDepth 100000 in
theorem jm_body_succ {l : Launch} {α : Nat → Nat → Nat} {cy : jm_C} {D : va_G} {n : Nat} (hB : jm_Body l α cy D n) : jm_Body l α cy D (n + 1) := by
  intro d M y cc ret hM pc ls st σ r σ' hrun p e s m args below meth c A H locs lsA X hH hl hol hos
  have hMn := jm_met_of hB
  have K : ∀ {pc : Nat} {ls : List (Option jm_V)} {st : List jm_V} {σ : jm_S}, jm_run n d (M, pc, ls, st, σ) = some (r, σ') → ∀ {H : Heap} {locs : List Loc} {lsA : Array Slot}, jm_H α cy D A s σ H locs → lv_has lsA M.2.2.1 (jm_lc α 0 ls) → jm_okl ls → jm_oks st → W p l e (jm_rm d) s m args below meth c H locs 0 0 (MQ below (jm_Q α cy D A r σ') args s 0 0 A) (F0 m pc lsA (st.map (jm_cv α))) :=
    by
    intro pc ls st σ h H locs lsA h1 h2 h3 h4
    exact hB d M y cc ret hM pc ls st σ r σ' h p e s m args below meth c A H locs lsA X h1 h2 h3 h4
  obtain ⟨hx, hb, hml, hown, hts, hN, hK, hZ, hA, hr, hlocks⟩ := id X
  have E : jm_ax (jm_run n) d (jm_act (M, pc, ls, st, σ)) = some (r, σ') := hrun
  unfold jm_act at E
  dsimp only at E
  cases hlk : jm_lk M.2.1 pc with
  | none => rw [hlk] at E; cases E
  | some q =>
  obtain ⟨i, k⟩ := q
  rw [hlk] at E
  dsimp only at E
  have hd : decode cc pc = .ok (i, k) := hM.1 (pc, i, k) (jm_lk_mem hlk)
  have hq : jm_qk ret M.2.2.2 (pc, i, k) = true := hM.2.1 (pc, i, k) (jm_lk_mem hlk)
  cases i
  case iconst c9 =>
    have hk : k = 1 := Nat.eq_of_beq_eq_true hq
    subst hk
    exact lv_iconst hx hb hd rfl (K E hH hl hol ⟨trivial, hos⟩)
  case bipush c9 =>
    have hk : k = 2 := Nat.eq_of_beq_eq_true hq
    subst hk
    exact lv_bipush hx hb hd rfl (K E hH hl hol ⟨trivial, hos⟩)
  case sipush c9 =>
    have hk : k = 3 := Nat.eq_of_beq_eq_true hq
    subst hk
    exact lv_sipush hx hb hd rfl (K E hH hl hol ⟨trivial, hos⟩)
  case lconst c9 =>
    have hk : k = 1 := Nat.eq_of_beq_eq_true hq
    subst hk
    exact lv_lconst hx hb hd rfl (K E hH hl hol ⟨trivial, hos⟩)
  case ldc ix =>
    have hk : k = 2 := Nat.eq_of_beq_eq_true hq
    subst hk
    have E1 : jm_ax (jm_run n) d (match jm_lk2 jm_kiL M.1 ix with
      | some v => jm_go (M, pc + 2, ls, jm_I v :: st, σ)
      | none => none) = some (r, σ') := E
    cases h : jm_lk2 jm_kiL M.1 ix with
    | none => rw [h] at E1; cases E1
    | some v => rw [h] at E1; exact lv_ldc hx hb hown (hts _ (jm_tgd_mem (jm_kik _ (jm_lk2_mem h)) rfl)) hd (K E1 hH hl hol ⟨trivial, hos⟩)
  case ldc_w ix =>
    have hk : k = 3 := Nat.eq_of_beq_eq_true hq
    subst hk
    have E1 : jm_ax (jm_run n) d (match jm_lk2 jm_kiL M.1 ix with
      | some v => jm_go (M, pc + 3, ls, jm_I v :: st, σ)
      | none => none) = some (r, σ') := E
    cases h : jm_lk2 jm_kiL M.1 ix with
    | none => rw [h] at E1; cases E1
    | some v => rw [h] at E1; exact lv_ldcw hx hb hown (hts _ (jm_tgd_mem (jm_kik _ (jm_lk2_mem h)) rfl)) hd (K E1 hH hl hol ⟨trivial, hos⟩)
  case ldc2_w ix =>
    have hk : k = 3 := Nat.eq_of_beq_eq_true hq
    subst hk
    have E1 : jm_ax (jm_run n) d (match jm_lk2 jm_klL M.1 ix with
      | some v => jm_go (M, pc + 3, ls, jm_L v :: st, σ)
      | none => none) = some (r, σ') := E
    cases h : jm_lk2 jm_klL M.1 ix with
    | none => rw [h] at E1; cases E1
    | some v => rw [h] at E1; exact lv_ldc2 hx hb hown (hts _ (jm_tgd_mem (jm_klk _ (jm_lk2_mem h)) rfl)) hd (K E1 hH hl hol ⟨trivial, hos⟩)
  case iload_n i9 =>
    have hk : k = 1 := Nat.eq_of_beq_eq_true hq
    subst hk
    obtain ⟨x, hg, E⟩ := jm_ax_ild E
    exact lv_iload_n hx hb hd rfl (jm_lv_at hl hg) (K E hH hl hol ⟨trivial, hos⟩)
  case iload i9 =>
    have hk : k = 2 := Nat.eq_of_beq_eq_true hq
    subst hk
    obtain ⟨x, hg, E⟩ := jm_ax_ild E
    exact lv_iload hx hb hd (jm_lv_at hl hg) (K E hH hl hol ⟨trivial, hos⟩)
  case lload_n i9 =>
    have hk : k = 1 := Nat.eq_of_beq_eq_true hq
    subst hk
    obtain ⟨x, hg, E⟩ := jm_ax_lld E
    exact lv_lload_n hx hb hd rfl (jm_lv_at hl hg) (K E hH hl hol ⟨trivial, hos⟩)
  case lload i9 =>
    have hk : k = 2 := Nat.eq_of_beq_eq_true hq
    subst hk
    obtain ⟨x, hg, E⟩ := jm_ax_lld E
    exact lv_lload hx hb hd (jm_lv_at hl hg) (K E hH hl hol ⟨trivial, hos⟩)
  case aload_n i9 =>
    have hk : k = 1 := Nat.eq_of_beq_eq_true hq
    subst hk
    obtain ⟨g, rr, hg, E⟩ := jm_ax_ald E
    exact lv_aload_n hx hb hd rfl (jm_lv_at hl hg) (K E hH hl hol ⟨jm_okl_gl hol hg, hos⟩)
  case aload i9 =>
    have hk : k = 2 := Nat.eq_of_beq_eq_true hq
    subst hk
    obtain ⟨g, rr, hg, E⟩ := jm_ax_ald E
    exact lv_aload hx hb hd (jm_lv_at hl hg) (K E hH hl hol ⟨jm_okl_gl hol hg, hos⟩)
  case istore_n i9 =>
    have hk : k = 1 := Nat.eq_of_beq_eq_true hq
    subst hk
    obtain ⟨x, st2, hlt, hst9, E9⟩ := jm_ax_ist E
    subst hst9
    exact lv_istore_n hx hb hd rfl hl hlt rfl (fun lsB hlB => K E9 hH (jm_lv_s1 (v := jm_I x) hlB) (jm_okl_s1 hol trivial) hos.2)
  case istore i9 =>
    have hk : k = 2 := Nat.eq_of_beq_eq_true hq
    subst hk
    obtain ⟨x, st2, hlt, hst9, E9⟩ := jm_ax_ist E
    subst hst9
    exact lv_istore hx hb hd hl hlt rfl (fun lsB hlB => K E9 hH (jm_lv_s1 (v := jm_I x) hlB) (jm_okl_s1 hol trivial) hos.2)
  case lstore_n i9 =>
    have hk : k = 1 := Nat.eq_of_beq_eq_true hq
    subst hk
    obtain ⟨x, st2, hlt, hst9, E9⟩ := jm_ax_lst E
    subst hst9
    exact lv_lstore_n hx hb hd rfl hl hlt rfl (fun lsB hlB => K E9 hH (jm_lv_s2 (v := jm_L x) hlB) (jm_okl_s2 hol trivial) hos.2)
  case lstore i9 =>
    have hk : k = 2 := Nat.eq_of_beq_eq_true hq
    subst hk
    obtain ⟨x, st2, hlt, hst9, E9⟩ := jm_ax_lst E
    subst hst9
    exact lv_lstore hx hb hd hl hlt rfl (fun lsB hlB => K E9 hH (jm_lv_s2 (v := jm_L x) hlB) (jm_okl_s2 hol trivial) hos.2)
  case iinc i9 c9 =>
    have hk : k = 3 := Nat.eq_of_beq_eq_true hq
    subst hk
    obtain ⟨x, hlt, hg, E⟩ := jm_ax_inc E
    have hm := jm_lc_gl (α := α) (j := 0) hg
    rw [Nat.zero_add] at hm
    obtain ⟨k9, hk9⟩ := List.getElem?_of_mem hm
    exact lv_iinc hx hb hd hl hk9 rfl hlt rfl (fun lsB hlB => K E hH (jm_lv_s1 (v := jm_I _) hlB) (jm_okl_s1 hol trivial) hos)
  case iadd =>
    have hk : k = 1 := Nat.eq_of_beq_eq_true hq
    subst hk
    obtain ⟨x, y9, st2, rfl, E⟩ := jm_ax_p2 E
    exact lv_iadd hx hb hd (K E hH hl hol ⟨trivial, hos.2.2⟩)
  case isub =>
    have hk : k = 1 := Nat.eq_of_beq_eq_true hq
    subst hk
    obtain ⟨x, y9, st2, rfl, E⟩ := jm_ax_p2 E
    exact lv_isub hx hb hd (K E hH hl hol ⟨trivial, hos.2.2⟩)
  case imul =>
    have hk : k = 1 := Nat.eq_of_beq_eq_true hq
    subst hk
    obtain ⟨x, y9, st2, rfl, E⟩ := jm_ax_p2 E
    exact lv_imul hx hb hd (K E hH hl hol ⟨trivial, hos.2.2⟩)
  case iand =>
    have hk : k = 1 := Nat.eq_of_beq_eq_true hq
    subst hk
    obtain ⟨x, y9, st2, rfl, E⟩ := jm_ax_p2 E
    exact lv_iand hx hb hd (K E hH hl hol ⟨trivial, hos.2.2⟩)
  case ior =>
    have hk : k = 1 := Nat.eq_of_beq_eq_true hq
    subst hk
    obtain ⟨x, y9, st2, rfl, E⟩ := jm_ax_p2 E
    exact lv_ior hx hb hd (K E hH hl hol ⟨trivial, hos.2.2⟩)
  case ishl =>
    have hk : k = 1 := Nat.eq_of_beq_eq_true hq
    subst hk
    obtain ⟨x, y9, st2, rfl, E⟩ := jm_ax_p2 E
    exact lv_ishl hx hb hd (K E hH hl hol ⟨trivial, hos.2.2⟩)
  case ishr =>
    have hk : k = 1 := Nat.eq_of_beq_eq_true hq
    subst hk
    obtain ⟨x, y9, st2, rfl, E⟩ := jm_ax_p2 E
    exact lv_ishr hx hb hd (K E hH hl hol ⟨trivial, hos.2.2⟩)
  case idiv =>
    have hk : k = 1 := Nat.eq_of_beq_eq_true hq
    subst hk
    obtain ⟨x, y9, st2, rfl, E⟩ := jm_ax_p2 E
    obtain ⟨hb9, E⟩ := jm_ax_if E
    exact lv_idiv hx hb hd (of_decide_eq_true hb9) (K E hH hl hol ⟨trivial, hos.2.2⟩)
  case ineg =>
    have hk : k = 1 := Nat.eq_of_beq_eq_true hq
    subst hk
    obtain ⟨x, st2, rfl, E⟩ := jm_ax_p1 E
    exact lv_ineg hx hb hd (K E hH hl hol ⟨trivial, hos.2⟩)
  case ladd =>
    have hk : k = 1 := Nat.eq_of_beq_eq_true hq
    subst hk
    obtain ⟨x, y9, st2, rfl, E⟩ := jm_ax_q2 E
    exact lv_ladd hx hb hd (K E hH hl hol ⟨trivial, hos.2.2⟩)
  case lsub =>
    have hk : k = 1 := Nat.eq_of_beq_eq_true hq
    subst hk
    obtain ⟨x, y9, st2, rfl, E⟩ := jm_ax_q2 E
    exact lv_lsub hx hb hd (K E hH hl hol ⟨trivial, hos.2.2⟩)
  case lmul =>
    have hk : k = 1 := Nat.eq_of_beq_eq_true hq
    subst hk
    obtain ⟨x, y9, st2, rfl, E⟩ := jm_ax_q2 E
    exact lv_lmul hx hb hd (K E hH hl hol ⟨trivial, hos.2.2⟩)
  case land =>
    have hk : k = 1 := Nat.eq_of_beq_eq_true hq
    subst hk
    obtain ⟨x, y9, st2, rfl, E⟩ := jm_ax_q2 E
    exact lv_land hx hb hd (K E hH hl hol ⟨trivial, hos.2.2⟩)
  case lxor =>
    have hk : k = 1 := Nat.eq_of_beq_eq_true hq
    subst hk
    obtain ⟨x, y9, st2, rfl, E⟩ := jm_ax_q2 E
    exact lv_lxor hx hb hd (K E hH hl hol ⟨trivial, hos.2.2⟩)
  case ldiv =>
    have hk : k = 1 := Nat.eq_of_beq_eq_true hq
    subst hk
    obtain ⟨x, y9, st2, rfl, E⟩ := jm_ax_q2 E
    obtain ⟨hb9, E⟩ := jm_ax_if E
    exact lv_ldiv hx hb hd (of_decide_eq_true hb9) (K E hH hl hol ⟨trivial, hos.2.2⟩)
  case lrem =>
    have hk : k = 1 := Nat.eq_of_beq_eq_true hq
    subst hk
    obtain ⟨x, y9, st2, rfl, E⟩ := jm_ax_q2 E
    obtain ⟨hb9, E⟩ := jm_ax_if E
    exact lv_lrem hx hb hd (of_decide_eq_true hb9) (K E hH hl hol ⟨trivial, hos.2.2⟩)
  case lcmp =>
    have hk : k = 1 := Nat.eq_of_beq_eq_true hq
    subst hk
    obtain ⟨x, y9, st2, rfl, E⟩ := jm_ax_q2 E
    exact W.lcmp hx hb hd (K E hH hl hol ⟨trivial, hos.2.2⟩)
  case i2l =>
    have hk : k = 1 := Nat.eq_of_beq_eq_true hq
    subst hk
    obtain ⟨x, st2, rfl, E⟩ := jm_ax_p1 E
    exact lv_i2l hx hb hd rfl (K E hH hl hol ⟨trivial, hos.2⟩)
  case l2i =>
    have hk : k = 1 := Nat.eq_of_beq_eq_true hq
    subst hk
    obtain ⟨x, st2, rfl, E⟩ := jm_ax_q1 E
    exact lv_l2i hx hb hd rfl (K E hH hl hol ⟨trivial, hos.2⟩)
  case i2b =>
    have hk : k = 1 := Nat.eq_of_beq_eq_true hq
    subst hk
    obtain ⟨x, st2, rfl, E⟩ := jm_ax_p1 E
    exact lv_i2b hx hb hd rfl (K E hH hl hol ⟨trivial, hos.2⟩)
  case i2s =>
    have hk : k = 1 := Nat.eq_of_beq_eq_true hq
    subst hk
    obtain ⟨x, st2, rfl, E⟩ := jm_ax_p1 E
    exact lv_i2s hx hb hd rfl (K E hH hl hol ⟨trivial, hos.2⟩)
  case dup =>
    have hk : k = 1 := Nat.eq_of_beq_eq_true hq
    subst hk
    match st, E, hos with
    | .inl (.inl x) :: st2, E, hos => exact lv_dup hx hb hd rfl (K E hH hl hol ⟨trivial, trivial, hos.2⟩)
    | .inr q :: st2, E, hos => exact lv_dup hx hb hd rfl (K E hH hl hol ⟨hos.1, hos.1, hos.2⟩)
    | [], E, _ => cases E
    | .inl (.inr x) :: st2, E, _ => cases E
  case dup2 =>
    have hk : k = 1 := Nat.eq_of_beq_eq_true hq
    subst hk
    match st, E, hos with
    | .inl (.inr x) :: st2, E, hos => exact lv_dup2_2 hx hb hd rfl (K E hH hl hol ⟨trivial, trivial, hos.2⟩)
    | .inl (.inl x) :: .inr q :: st2, E, hos => exact lv_dup2_11 hx hb hd rfl rfl (K E hH hl hol ⟨trivial, hos.2.1, trivial, hos.2.1, hos.2.2⟩)
    | [], E, _ => cases E
    | .inr q :: st2, E, _ => cases E
    | [.inl (.inl x)], E, _ => cases E
    | .inl (.inl x) :: .inl q :: st2, E, _ => cases E
  case goto off =>
    obtain ⟨hk, htg⟩ := (Bool.and_eq_true _ _).mp hq
    have hk : k = 3 := Nat.eq_of_beq_eq_true hk
    subst hk
    have htg := jm_tg_ok (of_decide_eq_true htg)
    exact lv_goto hx hb hd htg (K E hH hl hol hos)
  case ifCond c9 off =>
    obtain ⟨hk, htg⟩ := (Bool.and_eq_true _ _).mp hq
    have hk : k = 3 := Nat.eq_of_beq_eq_true hk
    subst hk
    have htg := jm_tg_ok (of_decide_eq_true htg)
    obtain ⟨x, st2, rfl, E⟩ := jm_ax_p1 E
    obtain ⟨Et, Ef⟩ := jm_ax_br E
    cases c9 with
    | eq => exact lv_if_eq hx hb hd htg (fun h => K (Et (decide_eq_true h)) hH hl hol hos.2) (fun h => K (Ef (decide_eq_false h)) hH hl hol hos.2)
    | ne => exact lv_if_ne hx hb hd htg (fun h => K (Et (decide_eq_true h)) hH hl hol hos.2) (fun h => K (Ef (decide_eq_false (fun h9 => h9 h))) hH hl hol hos.2)
    | lt => exact lv_if_lt hx hb hd htg (fun h => K (Et (decide_eq_true h)) hH hl hol hos.2) (fun h => K (Ef (decide_eq_false h)) hH hl hol hos.2)
    | ge => exact lv_if_ge hx hb hd htg (fun h => K (Et (decide_eq_true h)) hH hl hol hos.2) (fun h => K (Ef (decide_eq_false h)) hH hl hol hos.2)
    | gt => exact lv_if_gt hx hb hd htg (fun h => K (Et (decide_eq_true h)) hH hl hol hos.2) (fun h => K (Ef (decide_eq_false h)) hH hl hol hos.2)
    | le => exact lv_if_le hx hb hd htg (fun h => K (Et (decide_eq_true h)) hH hl hol hos.2) (fun h => K (Ef (decide_eq_false h)) hH hl hol hos.2)
  case if_icmp c9 off =>
    obtain ⟨hk, htg⟩ := (Bool.and_eq_true _ _).mp hq
    have hk : k = 3 := Nat.eq_of_beq_eq_true hk
    subst hk
    have htg := jm_tg_ok (of_decide_eq_true htg)
    obtain ⟨x, y9, st2, rfl, E⟩ := jm_ax_p2 E
    obtain ⟨Et, Ef⟩ := jm_ax_br E
    cases c9 with
    | eq => exact lv_icmp_eq hx hb hd htg (fun h => K (Et (decide_eq_true h)) hH hl hol hos.2.2) (fun h => K (Ef (decide_eq_false h)) hH hl hol hos.2.2)
    | ne => exact lv_icmp_ne hx hb hd htg (fun h => K (Et (decide_eq_true h)) hH hl hol hos.2.2) (fun h => K (Ef (decide_eq_false (fun h9 => h9 h))) hH hl hol hos.2.2)
    | lt => exact lv_icmp_lt hx hb hd htg (fun h => K (Et (decide_eq_true h)) hH hl hol hos.2.2) (fun h => K (Ef (decide_eq_false h)) hH hl hol hos.2.2)
    | ge => exact lv_icmp_ge hx hb hd htg (fun h => K (Et (decide_eq_true h)) hH hl hol hos.2.2) (fun h => K (Ef (decide_eq_false h)) hH hl hol hos.2.2)
    | gt => exact lv_icmp_gt hx hb hd htg (fun h => K (Et (decide_eq_true h)) hH hl hol hos.2.2) (fun h => K (Ef (decide_eq_false h)) hH hl hol hos.2.2)
    | le => exact lv_icmp_le hx hb hd htg (fun h => K (Et (decide_eq_true h)) hH hl hol hos.2.2) (fun h => K (Ef (decide_eq_false h)) hH hl hol hos.2.2)
  case tableswitch dd lo hi offs =>
    obtain ⟨x, st2, rfl, E⟩ := jm_ax_p1 E
    obtain ⟨h12, h3⟩ := (Bool.and_eq_true _ _).mp hq
    obtain ⟨h1, h2⟩ := (Bool.and_eq_true _ _).mp h12
    have h3 := of_decide_eq_true h3
    rcases jm_sel_ts _ _ E with ⟨j, off, hj, hx9, E⟩ | ⟨hno, E⟩
    · have hlt : j < offs.toList.length := (List.getElem?_eq_some_iff.mp hj).1
      have htg := jm_tg_ok (of_decide_eq_true (List.all_eq_true.mp h2 off (List.mem_of_getElem? hj)))
      have ho : offs[(x.toInt - lo).toNat]? = some off := by
        rw [show (x.toInt - lo).toNat = j by omega, ← Array.getElem?_toList]
        exact hj
      exact lv_tableIn hx hb hd (by omega) (by omega) ho htg (K E hH hl hol hos.2)
    · have htg := jm_tg_ok (of_decide_eq_true h1)
      refine lv_tableOut hx hb hd ?_ htg (K E hH hl hol hos.2)
      by_cases ha : x.toInt < lo
      · exact Or.inl ha
      · refine Or.inr ?_
        by_cases hc : (x.toInt - lo).toNat < offs.toList.length
        · exact absurd (by omega) (hno (x.toInt - lo).toNat hc)
        · omega
  case lookupswitch dd ps =>
    obtain ⟨x, st2, rfl, E⟩ := jm_ax_p1 E
    obtain ⟨h12, h3⟩ := (Bool.and_eq_true _ _).mp hq
    obtain ⟨h1, h2⟩ := (Bool.and_eq_true _ _).mp h12
    obtain ⟨E, hof⟩ := jm_sel_ls _ E
    refine lv_lookup hx hb hd h3 rfl (jm_tg_ok ?_) (K E hH hl hol hos.2)
    rcases hof with hof | ⟨q, hq9, hof⟩
    · rw [hof]; exact of_decide_eq_true h1
    · rw [hof]; exact of_decide_eq_true (List.all_eq_true.mp h2 q hq9)
  case getfield ix =>
    have hk : k = 3 := Nat.eq_of_beq_eq_true hq
    subst hk
    obtain ⟨ci, j, w, g, rr, st2, hlk2, rfl, hsh, E⟩ := jm_ax_getf E
    have hw9 := jm_okw hos.1 (by rw [hsh]; intro h9; cases h9)
    obtain ⟨C, T, N, ty0, hcl, hnf, hj, -⟩ := jm_flk _ (jm_lk2_mem hlk2)
    rcases E with ⟨k2, r2, hrf, E⟩ | ⟨hrf, E⟩
    · refine jm_rget X hH hlk2 hos.1 hsh hd (by rw [hrf]; rfl) (K E hH hl hol ⟨?_, hos.2⟩)
      have hj26 : j < 26 := by
        have : ∀ ci, ci < 33 → jm_nf ci ≤ 26 := by decide
        have h33 : ci < 33 := by
          have : ∀ k, k < 33 → (jm_sh k).1 = 0 → (jm_sh k).2 < 33 := by decide
          have h9 := this g hw9.1 (by rw [hsh])
          rw [hsh] at h9
          exact h9
        have h9 := this ci h33
        dsimp only at hnf hj
        omega
      have h9 := jm_rf_ok g hw9.1 rr hw9.2 j hj26
      rw [hrf] at h9
      exact Or.inl (of_decide_eq_true h9)
    · exact jm_rget X hH hlk2 hos.1 hsh hd (by rw [hrf]; rfl) (K E hH hl hol ⟨trivial, hos.2⟩)
  case putfield ix =>
    have hk : k = 3 := Nat.eq_of_beq_eq_true hq
    subst hk
    obtain ⟨ci, j, w, x, g, rr, st2, hlk2, rfl, hsh, hrf, hw9, E⟩ := jm_ax_putf E
    exact jm_rput X hH hlk2 hos.2.1 hsh hrf hw9 hd (fun H1 locs1 hH1 => K E hH1 hl hol hos.2.2)
  case getstatic ix =>
    have hk : k = 3 := Nat.eq_of_beq_eq_true hq
    subst hk
    have E1 : jm_ax (jm_run n) d (match jm_lk2 jm_gsL M.1 ix with
      | some k => jm_go (M, pc + 3, ls, jm_R (40 + k) 0 :: st, σ)
      | none => none) = some (r, σ') := E
    cases h : jm_lk2 jm_gsL M.1 ix with
    | none => rw [h] at E1; cases E1
    | some g => rw [h] at E1; exact jm_rgs X hH h hd (fun hlt => K E1 hH hl hol ⟨Or.inr ⟨Nat.le_add_right _ _, by show 40 + g < 45; omega, rfl⟩, hos⟩)
  case iaload =>
    have hk : k = 1 := Nat.eq_of_beq_eq_true hq
    subst hk
    obtain ⟨i9, g, rr, st2, hst9, E9⟩ := jm_ax_ix E
    subst hst9
    rcases jm_ax_t15 E9 with ⟨n9, hsh, Ea⟩ | ⟨n9, hsh, Ea⟩
    · obtain ⟨hb9, Eb⟩ := jm_ax_if Ea
      exact jm_rild X hH hos.2.1 hsh hb9 hd (K Eb hH hl hol ⟨trivial, hos.2.2⟩)
    · obtain ⟨hb9, Eb⟩ := jm_ax_if Ea
      rcases hos.2.1 with h9 | ⟨h9, h10, h11⟩
      · have : ∀ k, k < 33 → (jm_sh k).1 ≠ 5 := by decide
        exact absurd (by rw [hsh]) (this g h9.1)
      · dsimp only at h9 h10 h11
        subst h11
        exact jm_rsld X hH h9 h10 hsh hb9 hd (K Eb hH hl hol ⟨trivial, hos.2.2⟩)
  case laload =>
    have hk : k = 1 := Nat.eq_of_beq_eq_true hq
    subst hk
    obtain ⟨i9, g, rr, st2, hst9, E9⟩ := jm_ax_ix E
    subst hst9
    obtain ⟨n9, hsh, Ea⟩ := jm_ax_t2 E9
    obtain ⟨hb9, Eb⟩ := jm_ax_if Ea
    exact jm_rlld X hH hos.2.1 hsh hb9 hd (K Eb hH hl hol ⟨trivial, hos.2.2⟩)
  case baload =>
    have hk : k = 1 := Nat.eq_of_beq_eq_true hq
    subst hk
    obtain ⟨i9, g, rr, st2, hst9, E9⟩ := jm_ax_ix E
    subst hst9
    obtain ⟨n9, hsh, Ea⟩ := jm_ax_t3 E9
    obtain ⟨hb9, Eb⟩ := jm_ax_if Ea
    exact jm_rzld X hH hos.2.1 hsh hb9 hd (K Eb hH hl hol ⟨trivial, hos.2.2⟩)
  case aaload =>
    have hk : k = 1 := Nat.eq_of_beq_eq_true hq
    subst hk
    obtain ⟨i9, g, rr, st2, hst9, E9⟩ := jm_ax_ix E
    subst hst9
    obtain ⟨n9, hsh, Ea⟩ := jm_ax_t4 E9
    obtain ⟨hb9, Eb⟩ := jm_ax_if Ea
    have hin9 := jm_in_of hb9
    have hlt : i9.toNatClampNeg < n9 := Nat.not_le.mp fun q => hin9 (Or.inr q)
    have hw9 := jm_okw hos.2.1 (by rw [hsh]; intro h9; cases h9)
    have h9 := jm_ra_ok g hw9.1 rr hw9.2 (by rw [hsh]) i9.toNatClampNeg (by rw [hsh]; exact hlt)
    exact jm_rald X hH hos.2.1 hsh hb9 hd (K Eb hH hl hol ⟨Or.inl h9, hos.2.2⟩)
  case iastore =>
    have hk : k = 1 := Nat.eq_of_beq_eq_true hq
    subst hk
    obtain ⟨x, st1, hst8, E8⟩ := jm_ax_p1 E
    subst hst8
    obtain ⟨i9, g, rr, st2, hst9, E9⟩ := jm_ax_ix E8
    subst hst9
    obtain ⟨n9, hsh, Ea⟩ := jm_ax_t1 E9
    obtain ⟨hb9, Eb⟩ := jm_ax_if Ea
    exact jm_rist X hH hos.2.2.1 hsh hb9 hd (fun H1 locs1 hH1 => K Eb hH1 hl hol hos.2.2.2)
  case lastore =>
    have hk : k = 1 := Nat.eq_of_beq_eq_true hq
    subst hk
    obtain ⟨x, st1, hst8, E8⟩ := jm_ax_q1 E
    subst hst8
    obtain ⟨i9, g, rr, st2, hst9, E9⟩ := jm_ax_ix E8
    subst hst9
    obtain ⟨n9, hsh, Ea⟩ := jm_ax_t2 E9
    obtain ⟨hb9, Eb⟩ := jm_ax_if Ea
    exact jm_rlst X hH hos.2.2.1 hsh hb9 hd (fun H1 locs1 hH1 => K Eb hH1 hl hol hos.2.2.2)
  case bastore =>
    have hk : k = 1 := Nat.eq_of_beq_eq_true hq
    subst hk
    obtain ⟨x, st1, hst8, E8⟩ := jm_ax_p1 E
    subst hst8
    obtain ⟨i9, g, rr, st2, hst9, E9⟩ := jm_ax_ix E8
    subst hst9
    obtain ⟨n9, hsh, Ea⟩ := jm_ax_t3 E9
    obtain ⟨hb9, Eb⟩ := jm_ax_if Ea
    exact jm_rzst X hH hos.2.2.1 hsh hb9 hd (fun H1 locs1 hH1 => K Eb hH1 hl hol hos.2.2.2)
  case invokevirtual ix =>
    have hk : k = 3 := Nat.eq_of_beq_eq_true hq
    subst hk
    obtain ⟨M2, na, bs, g, rr, st2, d2, q, hlk2, hna, rfl, hsh, hcat, h8, rfl, E1, E2⟩ := jm_ax_cv E
    obtain ⟨r1, σ1⟩ := q
    obtain ⟨ho1, ho2⟩ := jm_oks_app.mp hos
    have hst : (bs ++ jm_R g rr :: st2).map (jm_cv α) = ((bs.reverse.map (jm_cv α)).reverse ++ .ref (α g rr) :: st2.map (jm_cv α)) := by
      rw [List.map_append, List.map_reverse, List.reverse_reverse]
      rfl
    rw [hst]
    refine jm_rcv hMn X hH hlk2 (by rw [List.length_reverse]; exact hna) ho2.1 (jm_oks_rev ho1) hsh hcat h8 E1 hl.1 hd (fun H1 locs1 hH1 hr1 => ?_)
    cases r1 with
    | none => exact K E2 hH1 hl hol ho2.2
    | some v => exact K E2 hH1 hl hol ⟨hr1, ho2.2⟩
  case invokestatic ix =>
    have hk : k = 3 := Nat.eq_of_beq_eq_true hq
    subst hk
    rcases jm_ax_cs E with ⟨M2, na, bs, st2, d2, q, hlk2, hna, rfl, hcat, h8, rfl, E1, E2⟩ | ⟨w, hlk2, E⟩
    · obtain ⟨r1, σ1⟩ := q
      obtain ⟨ho1, ho2⟩ := jm_oks_app.mp hos
      have hst : (bs ++ st2).map (jm_cv α) = ((bs.reverse.map (jm_cv α)).reverse ++ st2.map (jm_cv α)) := by
        rw [List.map_append, List.map_reverse, List.reverse_reverse]
      rw [hst]
      refine jm_rcs hMn X hH hlk2 (by rw [List.length_reverse]; exact hna) (jm_oks_rev ho1) hcat h8 E1 hl.1 hd (fun H1 locs1 hH1 hr1 => ?_)
      cases r1 with
      | none => exact K E2 hH1 hl hol ho2
      | some v => exact K E2 hH1 hl hol ⟨hr1, ho2⟩
    · obtain ⟨w10, w11, w12, w13⟩ := jm_imk _ (jm_lk2_mem hlk2)
      have hmls : c.maxLocals = lsA.size := hml.trans hl.1.symm
      have hfr : 1 ≤ (jm_rm d).frames := Nat.le_add_left 1 d
      by_cases hw : w = 10
      · subst hw
        obtain ⟨x, st2, hst9, E9⟩ := jm_ax_p1 (show jm_ax (jm_run n) d (jm_p1 st _) = _ from E)
        subst hst9
        obtain ⟨h8, Eb⟩ := jm_ax_b8 E9
        exact va_mabs hx hb hmls hown (hts _ (jm_tgd_mem (w10 rfl) rfl)) (hts _ (jm_tgd_mem jm_abs.1 rfl)) (hts _ (jm_tgd_mem jm_abs.2.1 rfl)) (hts _ (jm_tgd_mem jm_abs.2.2 rfl)) hfr (by rw [jm_cats_sum]; show _ ≤ 60 * (d + 1); omega) (Nat.zero_le _) (Nat.zero_le _) hd (K Eb hH hl hol ⟨trivial, hos.2⟩)
      by_cases hw : w = 11
      · subst hw
        obtain ⟨x, y9, st2, hst9, E9⟩ := jm_ax_p2 (show jm_ax (jm_run n) d (jm_p2 st _) = _ from E)
        subst hst9
        obtain ⟨h8, Eb⟩ := jm_ax_b8 E9
        exact va_mmin hx hb hmls hown (hts _ (jm_tgd_mem (w11 rfl) rfl)) (hts _ (jm_tgd_mem jm_min.1 rfl)) (hts _ (jm_tgd_mem jm_min.2.1 rfl)) (hts _ (jm_tgd_mem jm_min.2.2 rfl)) hfr (by rw [jm_cats_sum]; show _ ≤ 60 * (d + 1); omega) (Nat.zero_le _) (Nat.zero_le _) hd (K Eb hH hl hol ⟨trivial, hos.2.2⟩)
      by_cases hw : w = 12
      · subst hw
        obtain ⟨x, y9, st2, hst9, E9⟩ := jm_ax_p2 (show jm_ax (jm_run n) d (jm_p2 st _) = _ from E)
        subst hst9
        obtain ⟨h8, Eb⟩ := jm_ax_b8 E9
        exact va_mmax hx hb hmls hown (hts _ (jm_tgd_mem (w12 rfl) rfl)) (hts _ (jm_tgd_mem jm_max.1 rfl)) (hts _ (jm_tgd_mem jm_max.2.1 rfl)) (hts _ (jm_tgd_mem jm_max.2.2 rfl)) hfr (by rw [jm_cats_sum]; show _ ≤ 60 * (d + 1); omega) (Nat.zero_le _) (Nat.zero_le _) hd (K Eb hH hl hol ⟨trivial, hos.2.2⟩)
      by_cases hw : w = 13
      · subst hw
        obtain ⟨n9, dp, k1, r1, sp, k0, r0, st2, n0, n1, hst9, hs0, hs1, h8, ⟨a1, a2, a3, a4, a5⟩, E9⟩ := jm_ax_ac E
        subst hst9
        obtain ⟨g1, g2⟩ := jm_okw hos.2.2.1 (by rw [hs1]; intro h9; cases h9)
        obtain ⟨g3, g4⟩ := jm_okw hos.2.2.2.2.1 (by rw [hs0]; intro h9; cases h9)
        have he0 := jm_wd_at (α := α) (cy := cy) (σ := σ) g3 g4
        have he1 := jm_wd_at (α := α) (cy := cy) (σ := σ) g1 g2
        rw [jm_ce1 hs0] at he0
        rw [jm_ce1 hs1] at he1
        have hw := jm_set_r (α := α) (cy := cy) (σ := σ) (f := va_cpy (σ.1 k0 r0) (σ.1 k1 r1) sp.toNatClampNeg dp.toNatClampNeg n9.toNatClampNeg) g1 g2
        rw [jm_ce1 hs1, jm_wr_at] at hw
        exact va_copyi hx hb hmls hown (hts _ (jm_tgd_mem (w13 rfl) rfl)) (hts _ (jm_tgd_mem jm_acp.1 rfl)) (hts _ (jm_tgd_mem jm_acp.2.1 rfl)) (hts _ (jm_tgd_mem jm_acp.2.2 rfl)) hK hH.1 hH.2.1 hH.2.2 _ _ 0 0 he0 he1 rfl rfl rfl a1 a2 a3 a4 a5 (fun _ _ => rfl) hfr (by rw [jm_cats_sum]; show _ + 18 ≤ 60 * (d + 1); omega) hd (fun H1 locs1 hP1 hD1 hS1 => K E9 ⟨by rw [hw] at hP1; exact hP1, by rw [hw] at hD1; exact hD1, hS1⟩ hl hol hos.2.2.2.2.2)
      exfalso
      revert E
      unfold jm_math
      split
      · exact absurd rfl ‹_›
      · exact absurd rfl ‹_›
      · exact absurd rfl ‹_›
      · exact absurd rfl ‹_›
      · intro E; cases E
  case ireturn =>
    obtain ⟨hk, hrt⟩ := (Bool.and_eq_true _ _).mp hq
    have hk : k = 1 := Nat.eq_of_beq_eq_true hk
    subst hk
    obtain ⟨x, hst9, hz9, hb01⟩ := jm_ax_ret (show jm_ax (jm_run n) d (jm_ret M st σ) = _ from E)
    clear E
    subst hst9
    cases hz9
    cases hbz : M.2.2.2 with
    | true =>
      rw [hbz] at hrt
      have hrt : ret = some .boolean := of_decide_eq_true hrt
      have hn : narrow .boolean (.int x) = .int x := by
        rcases hb01 hbz with rfl | rfl <;> decide
      exact W.zret hx hb (hr.trans hrt) hn (fun t ht hW => ⟨rfl, trivial, by rw [ht]; exact hH.1, hH.2.2.F ht⟩) hH.2.2.2.2 hd
    | false =>
      rw [hbz] at hrt
      have hrt : ret = some .int := of_decide_eq_true hrt
      exact W.iret hx hb (hr.trans hrt) (fun t ht hW => ⟨rfl, trivial, by rw [ht]; exact hH.1, hH.2.2.F ht⟩) hH.2.2.2.2 hd
  case lreturn =>
    obtain ⟨hk, hrt⟩ := (Bool.and_eq_true _ _).mp hq
    have hk : k = 1 := Nat.eq_of_beq_eq_true hk
    subst hk
    have hrt : ret = some .long := of_decide_eq_true hrt
    dsimp only at E
    split at E
    · next x =>
      have E : some (some (jm_L x), σ) = some (r, σ') := E
      cases E
      exact W.lret hx hb (hr.trans hrt) (fun t ht hW => ⟨rfl, trivial, by rw [ht]; exact hH.1, hH.2.2.F ht⟩) hH.2.2.2.2 hd
    · cases E
  case areturn =>
    obtain ⟨hk, hrt⟩ := (Bool.and_eq_true _ _).mp hq
    have hk : k = 1 := Nat.eq_of_beq_eq_true hk
    subst hk
    have hrt : ret = some (.object "ShaftDiscs$Shaft") := of_decide_eq_true hrt
    dsimp only at E
    split at E
    · next q =>
      obtain ⟨g, rr⟩ := q
      have E : some (some (jm_R g rr), σ) = some (r, σ') := E
      cases E
      exact W.aret hx hb (hr.trans hrt) (Or.inl ⟨_, rfl⟩) (Or.inr ⟨_, rfl⟩) (fun t ht hW => ⟨rfl, hos.1, by rw [ht]; exact hH.1, hH.2.2.F ht⟩) hH.2.2.2.2 hd
    · cases E
  case return_ =>
    obtain ⟨hk, hrt⟩ := (Bool.and_eq_true _ _).mp hq
    have hk : k = 1 := Nat.eq_of_beq_eq_true hk
    subst hk
    have hrt : ret = none := of_decide_eq_true hrt
    dsimp only at E
    split at E
    · have E : some (none, σ) = some (r, σ') := E
      cases E
      exact W.vret hx hb (hr.trans hrt) (fun t ht hW => ⟨rfl, trivial, by rw [ht]; exact hH.1, hH.2.2.F ht⟩) hH.2.2.2.2 hd
    · cases E
  all_goals exact absurd (show (none : Option jm_Rs) = some _ from E) (by intro h; cases h)
theorem jm_body (l : Launch) (α : Nat → Nat → Nat) (cy : jm_C) (D : va_G) : ∀ n, jm_Body l α cy D n
  | 0 => fun _ _ _ _ _ _ _ _ _ _ _ _ e => by cases e
  | n + 1 => jm_body_succ (jm_body l α cy D n)
theorem jm_met (l : Launch) (α : Nat → Nat → Nat) (cy : jm_C) (D : va_G) (n : Nat) : jm_Metn l α cy D n := jm_met_of (jm_body l α cy D n)
