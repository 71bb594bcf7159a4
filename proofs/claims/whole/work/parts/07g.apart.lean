-- SOUNDNESS: the machine does what the picture says
section JAY
variable {rec : Nat → jm_F → Option jm_Rs} {d : Nat} {st : List jm_V} {z : jm_Rs} {M : jm_M} {pc i : Nat} {ls : List (Option jm_V)} {σ : jm_S}
theorem jm_ax_ild (e : jm_ax rec d (jm_ild M pc ls st σ i) = some z) : ∃ x, jm_gl ls i = some (jm_I x) ∧ rec d (M, pc, ls, jm_I x :: st, σ) = some z := by
  unfold jm_ild at e
  split at e
  · next x h => exact ⟨x, h, e⟩
  · cases e
theorem jm_ax_lld (e : jm_ax rec d (jm_lld M pc ls st σ i) = some z) : ∃ x, jm_gl ls i = some (jm_L x) ∧ rec d (M, pc, ls, jm_L x :: st, σ) = some z := by
  unfold jm_lld at e
  split at e
  · next x h => exact ⟨x, h, e⟩
  · cases e
theorem jm_ax_ald (e : jm_ax rec d (jm_ald M pc ls st σ i) = some z) : ∃ k r, jm_gl ls i = some (jm_R k r) ∧ rec d (M, pc, ls, jm_R k r :: st, σ) = some z := by
  unfold jm_ald at e
  split at e
  · next k r h => exact ⟨k, r, h, e⟩
  · cases e
theorem jm_ax_ist (e : jm_ax rec d (jm_ist M pc ls st σ i) = some z) : ∃ x st', i < M.2.2.1 ∧ st = jm_I x :: st' ∧ rec d (M, pc, jm_s1 ls i (jm_I x), st', σ) = some z := by
  unfold jm_ist at e
  split at e
  · next h =>
    obtain ⟨x, st', h1, h2⟩ := jm_ax_p1 e
    exact ⟨x, st', Nat.le_of_ble_eq_true h, h1, h2⟩
  · cases e
theorem jm_ax_lst (e : jm_ax rec d (jm_lst M pc ls st σ i) = some z) : ∃ x st', i + 1 < M.2.2.1 ∧ st = jm_L x :: st' ∧ rec d (M, pc, jm_s2 ls i (jm_L x), st', σ) = some z := by
  unfold jm_lst at e
  split at e
  · next h =>
    obtain ⟨x, st', h1, h2⟩ := jm_ax_q1 e
    exact ⟨x, st', Nat.le_of_ble_eq_true h, h1, h2⟩
  · cases e
theorem jm_ax_inc {c : Int} (e : jm_ax rec d (jm_inc M pc ls st σ i c) = some z) : ∃ x, i < M.2.2.1 ∧ jm_gl ls i = some (jm_I x) ∧ rec d (M, pc, jm_s1 ls i (jm_I (x + Int32.ofInt c)), st, σ) = some z := by
  unfold jm_inc at e
  split at e
  · next h =>
    split at e
    · next x h1 => exact ⟨x, Nat.le_of_ble_eq_true h, h1, e⟩
    · cases e
  · cases e
theorem jm_ax_br {b : Bool} {f g : jm_F} (e : jm_ax rec d (jm_br b f g) = some z) : (b = true → rec d f = some z) ∧ (b = false → rec d g = some z) := by
  cases b with
  | true => exact ⟨fun _ => e, fun h => by cases h⟩
  | false => exact ⟨(fun h => by cases h), fun _ => e⟩
theorem jm_ax_sh {k a : Nat} {f : Nat → jm_A} (e : jm_ax rec d (match jm_sh k with
    | (0, cj) => f cj
    | _ => none) = some z) (_ : a = 0) : ∃ cj, jm_sh k = (0, cj) ∧ jm_ax rec d (f cj) = some z := by
  generalize jm_sh k = q at e ⊢
  match q, e with
  | (0, cj), e => exact ⟨cj, rfl, e⟩
  | (n + 1, cj), e => cases e
theorem jm_ax_bq {a b : Nat} {f : jm_A} (e : jm_ax rec d (match Nat.beq a b with
    | true => f
    | false => none) = some z) : a = b ∧ jm_ax rec d f = some z := by
  cases h : Nat.beq a b with
  | true => rw [h] at e; exact ⟨Nat.eq_of_beq_eq_true h, e⟩
  | false => rw [h] at e; cases e
theorem jm_ax_getf {ix : Nat} (e : jm_ax rec d (jm_getf M pc ls st σ ix) = some z) : ∃ ci j w k r st', jm_lk2 jm_flL M.1 ix = some (ci, j, w) ∧ st = jm_R k r :: st' ∧ jm_sh k = (0, ci) ∧ ((∃ k' r', jm_rf k r j = some (k', r') ∧ rec d (M, pc, ls, jm_R k' r' :: st', σ) = some z) ∨ (jm_rf k r j = none ∧ rec d (M, pc, ls, jm_I (σ.1 k r j) :: st', σ) = some z)) := by
  unfold jm_getf at e
  cases h : jm_lk2 jm_flL M.1 ix with
  | none => rw [h] at e; cases e
  | some q =>
    obtain ⟨ci, j, w⟩ := q
    rw [h] at e
    obtain ⟨k, r, st', h1, e⟩ := jm_ax_pr e
    obtain ⟨cj, hsh, e⟩ := jm_ax_sh e (rfl : 0 = 0)
    obtain ⟨hcj, e3⟩ := jm_ax_bq e
    clear e
    subst hcj
    refine ⟨_, j, w, k, r, st', rfl, h1, hsh, ?_⟩
    cases h2 : jm_rf k r j with
    | none => rw [h2] at e3; exact Or.inr ⟨rfl, e3⟩
    | some q => rw [h2] at e3; exact Or.inl ⟨q.1, q.2, rfl, e3⟩
theorem jm_ax_putf {ix : Nat} (e : jm_ax rec d (jm_putf M pc ls st σ ix) = some z) : ∃ ci j w x k r st', jm_lk2 jm_flL M.1 ix = some (ci, j, w) ∧ st = jm_I x :: jm_R k r :: st' ∧ jm_sh k = (0, ci) ∧ jm_rf k r j = none ∧ (w = 0 ∨ (w = 1 ∧ (x = 0 ∨ x = 1))) ∧ rec d (M, pc, ls, st', jm_wi σ k r j x) = some z := by
  unfold jm_putf at e
  cases h : jm_lk2 jm_flL M.1 ix with
  | none => rw [h] at e; cases e
  | some q =>
    obtain ⟨ci, j, w⟩ := q
    rw [h] at e
    obtain ⟨x, st1, h0, e⟩ := jm_ax_p1 e
    obtain ⟨k, r, st', h1, e⟩ := jm_ax_pr e
    subst h1
    obtain ⟨cj, hsh, e⟩ := jm_ax_sh e (rfl : 0 = 0)
    obtain ⟨hcj, e3⟩ := jm_ax_bq e
    clear e
    subst hcj
    cases h2 : jm_rf k r j with
    | some q => rw [h2] at e3; cases e3
    | none =>
      rw [h2] at e3
      refine ⟨_, j, w, x, k, r, st', rfl, h0, hsh, h2, ?_⟩
      match w, e3 with
      | 0, e => exact ⟨Or.inl rfl, e⟩
      | 1, e =>
        obtain ⟨hb, e⟩ := jm_ax_if e
        exact ⟨Or.inr ⟨rfl, of_decide_eq_true hb⟩, e⟩
      | w + 2, e => cases e
theorem jm_take_eq : ∀ (n : Nat) (acc st as st' : List jm_V), jm_take n acc st = some (as, st') → ∃ bs, bs.length = n ∧ as = bs.reverse ++ acc ∧ st = bs ++ st'
  | 0, acc, st, as, st', e => by
    cases e
    exact ⟨[], rfl, rfl, rfl⟩
  | n + 1, acc, [], as, st', e => by cases e
  | n + 1, acc, v :: st, as, st', e => by
    obtain ⟨bs, h1, h2, h3⟩ := jm_take_eq n (v :: acc) st as st' e
    refine ⟨v :: bs, by rw [List.length_cons, h1], by rw [h2]; simp, by rw [h3]; rfl⟩
theorem jm_oks_app : ∀ {a b : List jm_V}, jm_oks (a ++ b) ↔ jm_oks a ∧ jm_oks b
  | [], b => ⟨fun h => ⟨trivial, h⟩, fun h => h.2⟩
  | v :: a, b => by
    have ih := jm_oks_app (a := a) (b := b)
    constructor
    · intro h
      exact ⟨⟨h.1, (ih.mp h.2).1⟩, (ih.mp h.2).2⟩
    · intro h
      exact ⟨h.1.1, ih.mpr ⟨h.1.2, h.2⟩⟩
theorem jm_oks_rev : ∀ {a : List jm_V}, jm_oks a → jm_oks a.reverse
  | [], _ => trivial
  | v :: a, h => by
    rw [List.reverse_cons]
    exact jm_oks_app.mpr ⟨jm_oks_rev h.2, h.1, trivial⟩
theorem jm_ax_b2 {a b a' b' : Nat} {f : jm_A} (e : jm_ax rec d (match Nat.ble a b, Nat.ble a' b' with
    | true, true => f
    | _, _ => none) = some z) : a ≤ b ∧ a' ≤ b' ∧ jm_ax rec d f = some z := by
  cases h : Nat.ble a b with
  | false => rw [h] at e; cases e
  | true =>
    cases h' : Nat.ble a' b' with
    | false => rw [h, h'] at e; cases e
    | true => rw [h, h'] at e; exact ⟨Nat.le_of_ble_eq_true h, Nat.le_of_ble_eq_true h', e⟩
theorem jm_ax_b3 {a b a' b' a2 b2 : Nat} {f : jm_A} (e : jm_ax rec d (match Nat.beq a2 b2, Nat.ble a b, Nat.ble a' b' with
    | true, true, true => f
    | _, _, _ => none) = some z) : a2 = b2 ∧ a ≤ b ∧ a' ≤ b' ∧ jm_ax rec d f = some z := by
  cases h2 : Nat.beq a2 b2 with
  | false => rw [h2] at e; cases e
  | true =>
    cases h : Nat.ble a b with
    | false => rw [h2, h] at e; cases e
    | true =>
      cases h' : Nat.ble a' b' with
      | false => rw [h2, h, h'] at e; cases e
      | true => rw [h2, h, h'] at e; exact ⟨Nat.eq_of_beq_eq_true h2, Nat.le_of_ble_eq_true h, Nat.le_of_ble_eq_true h', e⟩
theorem jm_ax_cv {ix : Nat} (e : jm_ax rec d (jm_callv M pc ls st σ ix) = some z) : ∃ M' n bs k r st' d' q, jm_lk2 jm_cvL M.1 ix = some (M', n) ∧ bs.length = n ∧ st = bs ++ jm_R k r :: st' ∧ jm_sh k = (0, M'.1) ∧ jm_cats (jm_R k r :: bs.reverse) ≤ M'.2.2.1 ∧ jm_cats st' ≤ 8 ∧ d = d' + 1 ∧ rec d' (jm_en M' (jm_R k r :: bs.reverse) σ) = some q ∧ rec d (jm_psh (M, pc, ls, st', σ) q) = some z := by
  unfold jm_callv at e
  cases h : jm_lk2 jm_cvL M.1 ix with
  | none => rw [h] at e; cases e
  | some q =>
    obtain ⟨M', n⟩ := q
    rw [h] at e
    dsimp only at e
    cases h1 : jm_take n [] st with
    | none => rw [h1] at e; cases e
    | some q =>
      obtain ⟨as, st1⟩ := q
      rw [h1] at e
      dsimp only at e
      obtain ⟨k, r, st', h2, e⟩ := jm_ax_pr e
      obtain ⟨bs, b1, b2, b3⟩ := jm_take_eq _ _ _ _ _ h1
      rw [List.append_nil] at b2
      subst b2
      subst h2
      obtain ⟨cj, hsh, e⟩ := jm_ax_sh e (rfl : 0 = 0)
      obtain ⟨hcj, g2, g3, e3⟩ := jm_ax_b3 e
      clear e
      subst hcj
      obtain ⟨q, q1, q2⟩ := Option.bind_eq_some_iff.mp (show Option.bind (jm_cal rec d M' (jm_R k r :: bs.reverse) σ) (fun r => rec d (jm_psh (M, pc, ls, st', σ) r)) = some z from e3)
      cases d with
      | zero => cases q1
      | succ d' => exact ⟨M', n, bs, k, r, st', d', q, rfl, b1, b3, hsh, g2, g3, rfl, q1, q2⟩
theorem jm_ax_cs {ix : Nat} (e : jm_ax rec d (jm_calls M pc ls st σ ix) = some z) : (∃ M' n bs st' d' q, jm_lk2 jm_csL M.1 ix = some (M', n) ∧ bs.length = n ∧ st = bs ++ st' ∧ jm_cats bs.reverse ≤ M'.2.2.1 ∧ jm_cats st' ≤ 8 ∧ d = d' + 1 ∧ rec d' (jm_en M' bs.reverse σ) = some q ∧ rec d (jm_psh (M, pc, ls, st', σ) q) = some z) ∨ (∃ w, jm_lk2 jm_imL M.1 ix = some w ∧ jm_ax rec d (jm_math M pc ls st σ w) = some z) := by
  unfold jm_calls at e
  cases h : jm_lk2 jm_csL M.1 ix with
  | some q =>
    obtain ⟨M', n⟩ := q
    rw [h] at e
    dsimp only at e
    refine Or.inl ?_
    cases h1 : jm_take n [] st with
    | none => rw [h1] at e; cases e
    | some q =>
      obtain ⟨as, st1⟩ := q
      rw [h1] at e
      dsimp only at e
      obtain ⟨bs, b1, b2, b3⟩ := jm_take_eq _ _ _ _ _ h1
      rw [List.append_nil] at b2
      subst b2
      obtain ⟨g2, g3, e⟩ := jm_ax_b2 e
      obtain ⟨q, q1, q2⟩ := Option.bind_eq_some_iff.mp (show Option.bind (jm_cal rec d M' bs.reverse σ) (fun r => rec d (jm_psh (M, pc, ls, st1, σ) r)) = some z from e)
      cases d with
      | zero => cases q1
      | succ d' => exact ⟨M', n, bs, st1, d', q, rfl, b1, b3, g2, g3, rfl, q1, q2⟩
  | none =>
    rw [h] at e
    dsimp only at e
    cases h2 : jm_lk2 jm_imL M.1 ix with
    | some w => rw [h2] at e; exact Or.inr ⟨w, rfl, e⟩
    | none => rw [h2] at e; cases e
theorem jm_sel_ts {k : jm_F → Option jm_Rs} {x : Int} {g : jm_F} : ∀ (l : List Int) (v : Int), jm_sel k (jm_ts M pc ls st σ x v l) (some g) = some z → (∃ (j : Nat) (off : Int), l[j]? = some off ∧ x = v + j ∧ k (M, jm_tg pc off, ls, st, σ) = some z) ∨ ((∀ j : Nat, j < l.length → x ≠ v + j) ∧ k g = some z)
  | [], v, e => Or.inr ⟨fun j hj => absurd hj (Nat.not_lt_zero j), e⟩
  | off :: l, v, e => by
    by_cases h : x = v
    · refine Or.inl ⟨0, off, rfl, by rw [h]; simp, ?_⟩
      have e : cond (decide (x = v)) (k (M, jm_tg pc off, ls, st, σ)) (jm_sel k (jm_ts M pc ls st σ x (v + 1) l) (some g)) = some z := e
      rw [decide_eq_true h] at e
      exact e
    · have e : cond (decide (x = v)) (k (M, jm_tg pc off, ls, st, σ)) (jm_sel k (jm_ts M pc ls st σ x (v + 1) l) (some g)) = some z := e
      rw [decide_eq_false h] at e
      rcases jm_sel_ts l (v + 1) e with ⟨j, o, h1, h2, h3⟩ | ⟨h1, h2⟩
      · exact Or.inl ⟨j + 1, o, h1, by rw [h2]; push_cast; omega, h3⟩
      · refine Or.inr ⟨fun j hj => ?_, h2⟩
        cases j with
        | zero => simpa using h
        | succ j =>
          have := h1 j (Nat.lt_of_succ_lt_succ hj)
          intro q
          apply this
          rw [q]
          push_cast
          omega
theorem jm_sel_ls {k : jm_F → Option jm_Rs} {x : Int} {dd : Int} : ∀ (l : List (Int × Int)), jm_sel k (jm_ls M pc ls st σ x l) (some (M, jm_tg pc dd, ls, st, σ)) = some z → k (M, jm_tg pc (Op.lookupswitch.offset l dd x), ls, st, σ) = some z ∧ (Op.lookupswitch.offset l dd x = dd ∨ ∃ q ∈ l, Op.lookupswitch.offset l dd x = q.2)
  | [], e => ⟨e, Or.inl rfl⟩
  | (v, off) :: l, e => by
    have e : cond (decide (x = v)) (k (M, jm_tg pc off, ls, st, σ)) (jm_sel k (jm_ls M pc ls st σ x l) (some (M, jm_tg pc dd, ls, st, σ))) = some z := e
    rw [Op.lookupswitch.offset_cons]
    by_cases h : x = v
    · rw [decide_eq_true h] at e
      rw [if_pos h.symm]
      exact ⟨e, Or.inr ⟨(v, off), List.mem_cons_self, rfl⟩⟩
    · rw [decide_eq_false h] at e
      rw [if_neg (fun q => h q.symm)]
      obtain ⟨h1, h2⟩ := jm_sel_ls l e
      refine ⟨h1, ?_⟩
      rcases h2 with h2 | ⟨q, hq, h2⟩
      · exact Or.inl h2
      · exact Or.inr ⟨q, List.mem_cons_of_mem _ hq, h2⟩
theorem jm_tg_ok {off : Int} (h : 0 ≤ (pc : Int) + off) : (pc : Int) + off = (jm_tg pc off : Int) := (Int.toNat_of_nonneg h).symm
theorem jm_ax_t1 {k : Nat} {f : Nat → jm_A} (e : jm_ax rec d (match jm_sh k with
    | (1, n) => f n
    | _ => none) = some z) : ∃ n, jm_sh k = (1, n) ∧ jm_ax rec d (f n) = some z := by
  generalize jm_sh k = q at e ⊢
  match q, e with
  | (0, n), e => cases e
  | (1, n), e => exact ⟨n, rfl, e⟩
  | (m + 2, n), e => cases e
theorem jm_ax_t2 {k : Nat} {f : Nat → jm_A} (e : jm_ax rec d (match jm_sh k with
    | (2, n) => f n
    | _ => none) = some z) : ∃ n, jm_sh k = (2, n) ∧ jm_ax rec d (f n) = some z := by
  generalize jm_sh k = q at e ⊢
  match q, e with
  | (0, n), e => cases e
  | (1, n), e => cases e
  | (2, n), e => exact ⟨n, rfl, e⟩
  | (m + 3, n), e => cases e
theorem jm_ax_t3 {k : Nat} {f : Nat → jm_A} (e : jm_ax rec d (match jm_sh k with
    | (3, n) => f n
    | _ => none) = some z) : ∃ n, jm_sh k = (3, n) ∧ jm_ax rec d (f n) = some z := by
  generalize jm_sh k = q at e ⊢
  match q, e with
  | (0, n), e => cases e
  | (1, n), e => cases e
  | (2, n), e => cases e
  | (3, n), e => exact ⟨n, rfl, e⟩
  | (m + 4, n), e => cases e
theorem jm_ax_t4 {k : Nat} {f : Nat → jm_A} (e : jm_ax rec d (match jm_sh k with
    | (4, n) => f n
    | _ => none) = some z) : ∃ n, jm_sh k = (4, n) ∧ jm_ax rec d (f n) = some z := by
  generalize jm_sh k = q at e ⊢
  match q, e with
  | (0, n), e => cases e
  | (1, n), e => cases e
  | (2, n), e => cases e
  | (3, n), e => cases e
  | (4, n), e => exact ⟨n, rfl, e⟩
  | (m + 5, n), e => cases e
theorem jm_ax_t15 {k : Nat} {f g : Nat → jm_A} (e : jm_ax rec d (match jm_sh k with
    | (1, n) => f n
    | (5, n) => g n
    | _ => none) = some z) : (∃ n, jm_sh k = (1, n) ∧ jm_ax rec d (f n) = some z) ∨ (∃ n, jm_sh k = (5, n) ∧ jm_ax rec d (g n) = some z) := by
  generalize jm_sh k = q at e ⊢
  match q, e with
  | (0, n), e => cases e
  | (1, n), e => exact Or.inl ⟨n, rfl, e⟩
  | (2, n), e => cases e
  | (3, n), e => cases e
  | (4, n), e => cases e
  | (5, n), e => exact Or.inr ⟨n, rfl, e⟩
  | (m + 6, n), e => cases e
theorem jm_ax_b8 {a b : Nat} {f : jm_A} (e : jm_ax rec d (match Nat.ble a b with
    | true => f
    | false => none) = some z) : a ≤ b ∧ jm_ax rec d f = some z := by
  cases h : Nat.ble a b with
  | true => rw [h] at e; exact ⟨Nat.le_of_ble_eq_true h, e⟩
  | false => rw [h] at e; cases e
theorem jm_ax_lk {β : Type} {o : Option β} {f : β → jm_A} (e : jm_ax rec d (match o with
    | some v => f v
    | none => none) = some z) : ∃ v, o = some v ∧ jm_ax rec d (f v) = some z := by
  cases o with
  | none => cases e
  | some v => exact ⟨v, rfl, e⟩
theorem jm_ax_ac (e : jm_ax rec d (jm_math M pc ls st σ 13) = some z) : ∃ n dp k1 r1 sp k0 r0 st' n0 n1, st = jm_I n :: jm_I dp :: jm_R k1 r1 :: jm_I sp :: jm_R k0 r0 :: st' ∧ jm_sh k0 = (1, n0) ∧ jm_sh k1 = (1, n1) ∧ jm_cats st' ≤ 8 ∧ (¬ sp < 0 ∧ ¬ dp < 0 ∧ ¬ n < 0 ∧ sp.toNatClampNeg + n.toNatClampNeg ≤ n0 ∧ dp.toNatClampNeg + n.toNatClampNeg ≤ n1) ∧ rec d (M, pc, ls, st', jm_wc σ k1 r1 k0 r0 sp.toNatClampNeg dp.toNatClampNeg n.toNatClampNeg) = some z := by
  simp only [jm_math] at e
  split at e
  · next n dp k1 r1 sp k0 r0 st' =>
    cases h0 : jm_sh k0 with
    | mk a0 n0 =>
    cases h1 : jm_sh k1 with
    | mk a1 n1 =>
    cases h8 : Nat.ble (jm_cats st') 8 with
    | false =>
      rw [h0, h1, h8] at e
      exfalso
      revert e
      split
      · next hh => cases hh
      · intro e; cases e
    | true =>
      rw [h0, h1, h8] at e
      revert e
      split
      · next n0' n1' hh0 hh1 hh8 =>
        intro e
        cases hh0
        cases hh1
        obtain ⟨hb, e⟩ := jm_ax_if e
        exact ⟨n, dp, k1, r1, sp, k0, r0, st', n0, n1, rfl, h0, h1, Nat.le_of_ble_eq_true h8, of_decide_eq_true hb, e⟩
      · intro e; cases e
  · cases e
theorem jm_ra_ok : ∀ k, k < 33 → ∀ r, r < jm_nr k → (jm_sh k).1 = 4 → ∀ i, i < (jm_sh k).2 → (jm_ra k r i).1 < 33 ∧ (jm_ra k r i).2 < jm_nr (jm_ra k r i).1 := by decide +kernel
theorem jm_rf_ok : ∀ k, k < 33 → ∀ r, r < jm_nr k → ∀ j, j < 26 → (match jm_rf k r j with
  | some q => decide (q.1 < 33 ∧ q.2 < jm_nr q.1)
  | none => true) = true := by decide +kernel
end JAY
