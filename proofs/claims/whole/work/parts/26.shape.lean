-- what a method answers: an int, or a long, by its code alone
def shp (kd : Bool) (v : jm_V) : Prop := match kd, v with
  | false, .inl (.inl _) => True
  | true, .inl (.inr _) => True
  | _, _ => False
def jm_rk (kd : Bool) (q : Nat × Instr × Nat) : Bool := match q.2.1 with
  | .ireturn => !kd
  | .lreturn => kd
  | .areturn => false
  | _ => true
def oka (kd : Bool) (M : jm_M) (a : jm_A) : Prop := match a with
  | none => True
  | some (.inl (l, o)) => (∀ q ∈ l, q.2.1 = M) ∧ (∀ g, o = some g → g.1 = M)
  | some (.inr (.inl (_, r))) => ∀ v, r.1 = some v → shp kd v
  | some (.inr (.inr (_, _, g))) => g.1 = M
section SHP
variable {kd : Bool} {M : jm_M} {pc : Nat} {ls : List (Option jm_V)} {st : List jm_V} {σ : jm_S}
theorem oka_no : oka kd M none := trivial
theorem oka_go {f : Nat × List (Option jm_V) × List jm_V × jm_S} : oka kd M (jm_go (M, f)) := ⟨fun q h => absurd h List.not_mem_nil, fun g h => by cases h; rfl⟩
theorem oka_if {b : Bool} {f : Nat × List (Option jm_V) × List jm_V × jm_S} : oka kd M (jm_if b (M, f)) := ⟨fun q h => by rw [List.mem_singleton.mp h], fun g h => by cases h⟩
theorem oka_br {b : Bool} {f g : Nat × List (Option jm_V) × List jm_V × jm_S} : oka kd M (jm_br b (M, f) (M, g)) := ⟨fun q h => by rw [List.mem_singleton.mp h], fun g h => by cases h; rfl⟩
theorem oka_p1 {k : Int32 → List jm_V → jm_A} (h : ∀ x s, oka kd M (k x s)) : oka kd M (jm_p1 st k) := by
  unfold jm_p1
  split
  · exact h _ _
  · exact trivial
theorem oka_p2 {k : Int32 → Int32 → List jm_V → jm_A} (h : ∀ x y s, oka kd M (k x y s)) : oka kd M (jm_p2 st k) := by
  unfold jm_p2
  split
  · exact h _ _ _
  · exact trivial
theorem oka_q1 {k : Int64 → List jm_V → jm_A} (h : ∀ x s, oka kd M (k x s)) : oka kd M (jm_q1 st k) := by
  unfold jm_q1
  split
  · exact h _ _
  · exact trivial
theorem oka_q2 {k : Int64 → Int64 → List jm_V → jm_A} (h : ∀ x y s, oka kd M (k x y s)) : oka kd M (jm_q2 st k) := by
  unfold jm_q2
  split
  · exact h _ _ _
  · exact trivial
theorem oka_pr {k : Nat → Nat → List jm_V → jm_A} (h : ∀ g r s, oka kd M (k g r s)) : oka kd M (jm_pr st k) := by
  unfold jm_pr
  split
  · exact h _ _ _
  · exact trivial
theorem oka_ix {k : Int32 → Nat → Nat → List jm_V → jm_A} (h : ∀ i g r s, oka kd M (k i g r s)) : oka kd M (jm_ix st k) := by
  unfold jm_ix
  split
  · exact h _ _ _ _
  · exact trivial
theorem oka_ild {i : Nat} : oka kd M (jm_ild M pc ls st σ i) := by
  unfold jm_ild
  split
  · exact oka_go
  · exact trivial
theorem oka_lld {i : Nat} : oka kd M (jm_lld M pc ls st σ i) := by
  unfold jm_lld
  split
  · exact oka_go
  · exact trivial
theorem oka_ald {i : Nat} : oka kd M (jm_ald M pc ls st σ i) := by
  unfold jm_ald
  split
  · exact oka_go
  · exact trivial
theorem oka_ist {i : Nat} : oka kd M (jm_ist M pc ls st σ i) := by
  unfold jm_ist
  split
  · exact oka_p1 fun _ _ => oka_go
  · exact trivial
theorem oka_lst {i : Nat} : oka kd M (jm_lst M pc ls st σ i) := by
  unfold jm_lst
  split
  · exact oka_q1 fun _ _ => oka_go
  · exact trivial
theorem oka_inc {i : Nat} {n : Int} : oka kd M (jm_inc M pc ls st σ i n) := by
  unfold jm_inc
  split
  · split
    · exact oka_go
    · exact trivial
  · exact trivial
theorem oka_getf {ix : Nat} : oka kd M (jm_getf M pc ls st σ ix) := by
  unfold jm_getf
  split
  · refine oka_pr fun _ _ _ => ?_
    split
    · split
      · split
        · exact oka_go
        · exact oka_go
      · exact trivial
    · exact trivial
  · exact trivial
theorem oka_putf {ix : Nat} : oka kd M (jm_putf M pc ls st σ ix) := by
  unfold jm_putf
  split
  · refine oka_p1 fun _ _ => oka_pr fun _ _ _ => ?_
    split
    · split
      · split
        · exact trivial
        · split
          · exact oka_go
          · exact oka_if
          · exact trivial
      · exact trivial
    · exact trivial
  · exact trivial
theorem oka_iald : oka kd M (jm_iald M pc ls st σ) := by
  unfold jm_iald
  refine oka_ix fun _ _ _ _ => ?_
  split
  · exact oka_if
  · exact oka_if
  · exact trivial
theorem oka_lald : oka kd M (jm_lald M pc ls st σ) := by
  unfold jm_lald
  refine oka_ix fun _ _ _ _ => ?_
  split
  · exact oka_if
  · exact trivial
theorem oka_zald : oka kd M (jm_zald M pc ls st σ) := by
  unfold jm_zald
  refine oka_ix fun _ _ _ _ => ?_
  split
  · exact oka_if
  · exact trivial
theorem oka_aald : oka kd M (jm_aald M pc ls st σ) := by
  unfold jm_aald
  refine oka_ix fun _ _ _ _ => ?_
  split
  · exact oka_if
  · exact trivial
theorem oka_iast : oka kd M (jm_iast M pc ls st σ) := by
  unfold jm_iast
  refine oka_p1 fun _ _ => oka_ix fun _ _ _ _ => ?_
  split
  · exact oka_if
  · exact trivial
theorem oka_last : oka kd M (jm_last M pc ls st σ) := by
  unfold jm_last
  refine oka_q1 fun _ _ => oka_ix fun _ _ _ _ => ?_
  split
  · exact oka_if
  · exact trivial
theorem oka_zast : oka kd M (jm_zast M pc ls st σ) := by
  unfold jm_zast
  refine oka_p1 fun _ _ => oka_ix fun _ _ _ _ => ?_
  split
  · exact oka_if
  · exact trivial
theorem oka_callv {ix : Nat} : oka kd M (jm_callv M pc ls st σ ix) := by
  unfold jm_callv
  split
  · split
    · refine oka_pr fun _ _ _ => ?_
      split
      · split
        · exact rfl
        · exact trivial
      · exact trivial
    · exact trivial
  · exact trivial
theorem oka_math {w : Nat} : oka kd M (jm_math M pc ls st σ w) := by
  unfold jm_math
  split
  · refine oka_p1 fun _ _ => ?_
    split
    · exact oka_go
    · exact trivial
  · refine oka_p2 fun _ _ _ => ?_
    split
    · exact oka_go
    · exact trivial
  · refine oka_p2 fun _ _ _ => ?_
    split
    · exact oka_go
    · exact trivial
  · split
    · split
      · exact oka_if
      · exact trivial
    · exact trivial
  · exact trivial
theorem oka_calls {ix : Nat} : oka kd M (jm_calls M pc ls st σ ix) := by
  unfold jm_calls
  split
  · split
    · split
      · exact rfl
      · exact trivial
    · exact trivial
  · split
    · exact oka_math
    · exact trivial
theorem oka_dup : oka kd M (jm_dup M pc ls st σ) := by
  unfold jm_dup
  split
  · exact oka_go
  · exact oka_go
  · exact trivial
theorem oka_dup2 : oka kd M (jm_dup2 M pc ls st σ) := by
  unfold jm_dup2
  split
  · exact oka_go
  · exact oka_go
  · exact trivial
theorem oka_ts {x : Int} : ∀ (l : List Int) (v : Int), ∀ q ∈ jm_ts M pc ls st σ x v l, q.2.1 = M
  | [], _, q, h => absurd h List.not_mem_nil
  | o :: l, v, q, h => (List.mem_cons.mp h).elim (fun e => by rw [e]) (oka_ts l (v + 1) q)
theorem oka_ls {x : Int} : ∀ (l : List (Int × Int)), ∀ q ∈ jm_ls M pc ls st σ x l, q.2.1 = M
  | [], q, h => absurd h List.not_mem_nil
  | (v, o) :: l, q, h => (List.mem_cons.mp h).elim (fun e => by rw [e]) (oka_ls l q)
end SHP
set_option maxHeartbeats 2000000 in
theorem jm_act_ok {kd : Bool} {M : jm_M} (hM : M.2.1.all (jm_rk kd) = true) (pc : Nat) (ls : List (Option jm_V)) (st : List jm_V) (σ : jm_S) : oka kd M (jm_act (M, pc, ls, st, σ)) := by
  show oka kd M (match jm_lk M.2.1 pc with
    | none => none
    | some (i, n) => _)
  cases h : jm_lk M.2.1 pc with
  | none => exact trivial
  | some q =>
    obtain ⟨i, n⟩ := q
    have hi := List.all_eq_true.mp hM _ (jm_lk_mem h)
    cases i
    case ireturn =>
      show oka kd M (jm_ret M st σ)
      unfold jm_ret
      split
      · intro v hv
        cases hv
        cases kd with
        | false => exact trivial
        | true => cases hi
      · exact trivial
    case lreturn =>
      dsimp only
      split
      · intro v hv
        cases hv
        cases kd with
        | false => cases hi
        | true => exact trivial
      · exact trivial
    case areturn => cases hi
    case return_ =>
      dsimp only
      split
      · intro v hv
        cases hv
      · exact trivial
    case tableswitch => exact oka_p1 fun x s => ⟨oka_ts _ _, fun g hg => by cases hg; rfl⟩
    case lookupswitch => exact oka_p1 fun x s => ⟨oka_ls _, fun g hg => by cases hg; rfl⟩
    all_goals first
      | exact trivial
      | exact oka_go
      | exact oka_ild
      | exact oka_lld
      | exact oka_ald
      | exact oka_ist
      | exact oka_lst
      | exact oka_inc
      | exact oka_p2 fun _ _ _ => oka_go
      | exact oka_p1 fun _ _ => oka_go
      | exact oka_q2 fun _ _ _ => oka_go
      | exact oka_q1 fun _ _ => oka_go
      | exact oka_p2 fun _ _ _ => oka_if
      | exact oka_q2 fun _ _ _ => oka_if
      | exact oka_p1 fun _ _ => oka_br
      | exact oka_p2 fun _ _ _ => oka_br
      | exact oka_getf
      | exact oka_putf
      | exact oka_iald
      | exact oka_lald
      | exact oka_zald
      | exact oka_aald
      | exact oka_iast
      | exact oka_last
      | exact oka_zast
      | exact oka_callv
      | exact oka_calls
      | exact oka_dup
      | exact oka_dup2
      | (dsimp only; split <;> first | exact oka_go | exact trivial)
theorem jm_sel_ok {kd : Bool} {M : jm_M} {k : jm_F → Option jm_Rs} {v : jm_V} {σ' : jm_S} (hk : ∀ f : jm_F, f.1 = M → k f = some (some v, σ') → shp kd v) : ∀ (l : List (Bool × jm_F)) (o : Option jm_F), (∀ q ∈ l, q.2.1 = M) → (∀ g, o = some g → g.1 = M) → jm_sel k l o = some (some v, σ') → shp kd v
  | [], some f, _, h2, e => hk f (h2 f rfl) e
  | [], none, _, _, e => by cases e
  | (b, f) :: l, o, h1, h2, e => by
    cases b with
    | true => exact hk f (h1 _ List.mem_cons_self) e
    | false => exact jm_sel_ok hk l o (fun q hq => h1 q (List.mem_cons_of_mem _ hq)) h2 e
theorem jm_run_shp {kd : Bool} {M : jm_M} (hM : M.2.1.all (jm_rk kd) = true) : ∀ (n d : Nat) (f : jm_F) (v : jm_V) (σ' : jm_S), f.1 = M → jm_run n d f = some (some v, σ') → shp kd v
  | 0, _, _, _, _, _, e => by cases e
  | n + 1, d, f, v, σ', hf, e => by
    have ih := jm_run_shp hM n
    obtain ⟨M0, pc, ls, st, σ⟩ := f
    have hf : M0 = M := hf
    subst hf
    have ha := jm_act_ok hM pc ls st σ
    have e : jm_ex (jm_run n) d (M0, pc, ls, st, σ) = some (some v, σ') := e
    unfold jm_ex at e
    generalize jm_act (M0, pc, ls, st, σ) = a at ha e
    match a, ha, e with
    | none, _, e => cases e
    | some (.inl (l, o)), ha, e => exact jm_sel_ok (fun f hf he => ih d f v σ' hf he) l o ha.1 ha.2 e
    | some (.inr (.inl (b, r))), ha, e =>
      have e : cond b (some r) none = some (some v, σ') := e
      cases b with
      | true => cases e; exact ha v rfl
      | false => cases e
    | some (.inr (.inr (M', as, g))), ha, e =>
      obtain ⟨q, h1, h2⟩ := Option.bind_eq_some_iff.mp e
      refine ih d (jm_psh g q) v σ' ?_ h2
      have ha : g.1 = M0 := ha
      unfold jm_psh
      split <;> exact ha
theorem jm_call_shp {kd : Bool} {M : jm_M} (hM : M.2.1.all (jm_rk kd) = true) {as : List jm_V} {σ σ' : jm_S} {v : jm_V} (h : jm_call 60 M as σ = some (some v, σ')) : shp kd v := by
  obtain ⟨n, hn⟩ := jm_ev_iff.mp (show jm_ev 59 (jm_en M as σ) = some (some v, σ') from h)
  exact jm_run_shp hM n 59 _ v σ' rfl hn
theorem jm_call_I {M : jm_M} (hM : M.2.1.all (jm_rk false) = true) {as : List jm_V} {σ σ' : jm_S} {v : jm_V} (h : jm_call 60 M as σ = some (some v, σ')) : ∃ x, v = jm_I x := by
  have := jm_call_shp hM h
  match v, this with
  | .inl (.inl x), _ => exact ⟨x, rfl⟩
theorem jm_call_L {M : jm_M} (hM : M.2.1.all (jm_rk true) = true) {as : List jm_V} {σ σ' : jm_S} {v : jm_V} (h : jm_call 60 M as σ = some (some v, σ')) : ∃ x, v = jm_L x := by
  have := jm_call_shp hM h
  match v, this with
  | .inl (.inr x), _ => exact ⟨x, rfl⟩
