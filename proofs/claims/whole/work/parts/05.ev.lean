-- the meaning without fuel; unrolling
theorem jm_sel_mono {β : Type} {k k' : jm_F → Option β} (h : ∀ f r, k f = some r → k' f = some r) : ∀ (l : List (Bool × jm_F)) (o : Option jm_F) (r : β), jm_sel k l o = some r → jm_sel k' l o = some r
  | [], some f, r, e => h f r e
  | [], none, r, e => by cases e
  | (b, f) :: l, o, r, e => by
    cases b with
    | true => exact h f r e
    | false => exact jm_sel_mono h l o r e
theorem jm_cal_mono {k k' : Nat → jm_F → Option jm_Rs} (h : ∀ d f r, k d f = some r → k' d f = some r) (d : Nat) (M : jm_M) (as : List jm_V) (σ : jm_S) (r : jm_Rs) (e : jm_cal k d M as σ = some r) : jm_cal k' d M as σ = some r := by
  cases d with
  | zero => cases e
  | succ d => exact h _ _ _ e
theorem jm_ex_mono {k k' : Nat → jm_F → Option jm_Rs} (h : ∀ d f r, k d f = some r → k' d f = some r) (d : Nat) (f : jm_F) (r : jm_Rs) (e : jm_ex k d f = some r) : jm_ex k' d f = some r := by
  unfold jm_ex at e ⊢
  generalize jm_act f = a at e ⊢
  match a, e with
  | none, e => cases e
  | some (.inl (l, o)), e => exact jm_sel_mono (h d) l o r e
  | some (.inr (.inl (b, q))), e => exact e
  | some (.inr (.inr (M, as, g))), e =>
    obtain ⟨q, h1, h2⟩ := Option.bind_eq_some_iff.mp e
    show (jm_cal k' d _ _ _).bind _ = some r
    rw [jm_cal_mono h _ _ _ _ _ h1]
    exact h _ _ _ h2
theorem jm_run_succ : ∀ (n d : Nat) (f : jm_F) (r : jm_Rs), jm_run n d f = some r → jm_run (n + 1) d f = some r
  | 0, _, _, _, e => by cases e
  | n + 1, d, f, r, e => jm_ex_mono (fun d f r => jm_run_succ n d f r) d f r e
theorem jm_run_le {n m : Nat} (hm : n ≤ m) {d : Nat} {f : jm_F} {r : jm_Rs} (e : jm_run n d f = some r) : jm_run m d f = some r := by
  induction hm with
  | refl => exact e
  | step _ ih => exact jm_run_succ _ _ _ _ ih
theorem jm_run_det {n m d : Nat} {f : jm_F} {r q : jm_Rs} (e : jm_run n d f = some r) (e' : jm_run m d f = some q) : r = q := by
  have h1 := jm_run_le (Nat.le_max_left n m) e
  have h2 := jm_run_le (Nat.le_max_right n m) e'
  exact Option.some.inj (h1.symm.trans h2)
noncomputable def jm_ev (d : Nat) (f : jm_F) : Option jm_Rs := by
  classical exact if h : ∃ r n, jm_run n d f = some r then some h.choose else none
theorem jm_ev_iff {d : Nat} {f : jm_F} {r : jm_Rs} : jm_ev d f = some r ↔ ∃ n, jm_run n d f = some r := by
  unfold jm_ev
  constructor
  · intro e
    split at e
    · next h =>
      obtain ⟨n, hn⟩ := h.choose_spec
      cases e
      exact ⟨n, hn⟩
    · cases e
  · intro ⟨n, hn⟩
    have h : ∃ r n, jm_run n d f = some r := ⟨r, n, hn⟩
    rw [dif_pos h]
    obtain ⟨m, hm⟩ := h.choose_spec
    rw [jm_run_det hm hn]
theorem jm_opt {α : Type} {a b : Option α} (h : ∀ r, a = some r ↔ b = some r) : a = b := by
  cases a with
  | none => cases b with
    | none => rfl
    | some y => exact (h y).mpr rfl
  | some x => exact ((h x).mp rfl).symm
theorem jm_sel_fin {d : Nat} : ∀ (l : List (Bool × jm_F)) (o : Option jm_F) (r : jm_Rs), jm_sel (jm_ev d) l o = some r → ∃ n, jm_sel (jm_run n d) l o = some r
  | [], some f, r, e => jm_ev_iff.mp e
  | [], none, r, e => by cases e
  | (b, f) :: l, o, r, e => by
    cases b with
    | true => exact jm_ev_iff.mp e
    | false => exact jm_sel_fin l o r e
theorem jm_ev_eq (d : Nat) (f : jm_F) : jm_ev d f = jm_ex jm_ev d f := by
  refine jm_opt fun r => ⟨fun e => ?_, fun e => ?_⟩
  · obtain ⟨n, hn⟩ := jm_ev_iff.mp e
    have h1 := jm_run_succ n d f r hn
    exact jm_ex_mono (fun d f r h => jm_ev_iff.mpr ⟨n, h⟩) d f r h1
  · refine jm_ev_iff.mpr ?_
    unfold jm_ex at e
    split at e
    · cases e
    · next heq =>
      obtain ⟨n, hn⟩ := jm_sel_fin _ _ _ e
      exact ⟨n + 1, by show jm_ex _ _ _ = _; unfold jm_ex; rw [heq]; exact hn⟩
    · next heq => exact ⟨1, by show jm_ex _ _ _ = _; unfold jm_ex; rw [heq]; exact e⟩
    · next M as g heq =>
      obtain ⟨q, h1, h2⟩ := Option.bind_eq_some_iff.mp e
      obtain ⟨n2, h2⟩ := jm_ev_iff.mp h2
      cases d with
      | zero => cases h1
      | succ d =>
        obtain ⟨n1, h1⟩ := jm_ev_iff.mp (h1 : jm_ev d (jm_en M as g.2.2.2.2) = some q)
        refine ⟨max n1 n2 + 1, ?_⟩
        show jm_ex _ _ _ = _
        unfold jm_ex
        rw [heq]
        show (jm_run (max n1 n2) d (jm_en M as g.2.2.2.2)).bind _ = some r
        rw [jm_run_le (Nat.le_max_left n1 n2) h1]
        exact jm_run_le (Nat.le_max_right n1 n2) h2
/-- a call, without fuel -/
noncomputable def jm_call (d : Nat) (M : jm_M) (as : List jm_V) (σ : jm_S) : Option jm_Rs := jm_cal jm_ev d M as σ
theorem jm_call_succ (d : Nat) (M : jm_M) (as : List jm_V) (σ : jm_S) : jm_call (d + 1) M as σ = jm_ev d (jm_en M as σ) := rfl
def jm_elem : List Nat → Nat → Bool
  | [], _ => false
  | a :: l, b => match Nat.beq a b with
    | true => true
    | false => jm_elem l b
/-- unrolled: stops at the places of 'ss' -/
noncomputable def jm_un (ss : List Nat) (d : Nat) : Nat → jm_F → Option jm_Rs
  | 0, f => jm_ev d f
  | n + 1, f => match jm_act f with
    | none => none
    | some (.inl (l, o)) => jm_sel (fun g => match jm_elem ss g.2.1 with
      | true => jm_ev d g
      | false => jm_un ss d n g) l o
    | some (.inr (.inl (b, r))) => cond b (some r) none
    | some (.inr (.inr (M, as, g))) => (jm_call d M as g.2.2.2.2).bind fun r => jm_ev d (jm_psh g r)
theorem jm_sel_congr {β : Type} {k k' : jm_F → Option β} (h : ∀ f, k f = k' f) : ∀ (l : List (Bool × jm_F)) (o : Option jm_F), jm_sel k l o = jm_sel k' l o
  | [], some f => h f
  | [], none => rfl
  | (b, f) :: l, o => by
    show cond b (k f) (jm_sel k l o) = cond b (k' f) (jm_sel k' l o)
    rw [h f, jm_sel_congr h l o]
theorem jm_un_eq (ss : List Nat) (d : Nat) : ∀ (n : Nat) (f : jm_F), jm_ev d f = jm_un ss d n f
  | 0, f => rfl
  | n + 1, f => by
    have ih := jm_un_eq ss d n
    rw [jm_ev_eq]
    unfold jm_ex jm_un
    generalize jm_act f = a
    match a with
    | none => rfl
    | some (.inl (l, o)) =>
      refine jm_sel_congr (fun g => ?_) l o
      split
      · rfl
      · exact ih g
    | some (.inr (.inl (b, r))) => rfl
    | some (.inr (.inr (M, as, g))) => rfl
