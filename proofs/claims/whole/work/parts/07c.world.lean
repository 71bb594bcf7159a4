-- THE WORLD of both classes, by the store; values; locals
def jm_cv (α : Nat → Nat → Nat) (v : jm_V) : Value := match v with
  | .inl (.inl x) => .int x
  | .inl (.inr x) => .long x
  | .inr (k, r) => .ref (α k r)
abbrev jm_C : Type := ClassId × ClassId × ClassId × ClassId
def jm_tys (cy : jm_C) : List (ClassId × FieldType) := [(cy.1, .int), (cy.2.1, .long), (cy.2.2.1, .boolean), (cy.2.2.2, .array .int)]
def jm_ce (α : Nat → Nat → Nat) (cy : jm_C) (σ : jm_S) (k r : Nat) : va_E := match jm_sh k with
  | (0, ci) => .inr (ci, (List.range (jm_nf ci)).map fun j => match jm_rf k r j with
    | some q => .ref (α q.1 q.2)
    | none => .int (σ.1 k r j))
  | (1, n) => .inl (cy.1, n, .inl (σ.1 k r))
  | (2, n) => .inl (cy.2.1, n, .inr (.inl (σ.2 k r)))
  | (3, n) => .inl (cy.2.2.1, n, .inl (σ.1 k r))
  | (_, n) => .inl (cy.2.2.2, n, .inr (.inr (.inr (.inr fun i => if i < n then some (α (jm_ra k r i).1 (jm_ra k r i).2) else none))))
def jm_wd (α : Nat → Nat → Nat) (cy : jm_C) (σ : jm_S) : va_W := (List.range 63).map fun p => (α (jm_pk p).1 (jm_pk p).2, jm_ce α cy σ (jm_pk p).1 (jm_pk p).2)
theorem jm_pk_ps : ∀ k, k < 33 → ∀ r, r < jm_nr k → jm_pk (jm_bs k + r) = (k, r) ∧ jm_bs k + r < 63 := by decide
theorem jm_ps_pk : ∀ p, p < 63 → jm_bs (jm_pk p).1 + (jm_pk p).2 = p := by decide
theorem jm_wd_at {α : Nat → Nat → Nat} {cy : jm_C} {σ : jm_S} {k r : Nat} (hk : k < 33) (hr : r < jm_nr k) : (jm_wd α cy σ)[jm_bs k + r]? = some (α k r, jm_ce α cy σ k r) := by
  obtain ⟨h1, h2⟩ := jm_pk_ps k hk r hr
  unfold jm_wd
  rw [List.getElem?_map, List.getElem?_range h2]
  simp only [Option.map_some, h1]
theorem jm_ce_congr {α : Nat → Nat → Nat} {cy : jm_C} {σ σ' : jm_S} {k r : Nat} (h1 : σ'.1 k r = σ.1 k r) (h2 : σ'.2 k r = σ.2 k r) : jm_ce α cy σ' k r = jm_ce α cy σ k r := by
  unfold jm_ce
  rw [h1, h2]
theorem jm_wd_set {α : Nat → Nat → Nat} {cy : jm_C} {σ σ' : jm_S} {k r : Nat} (hk : k < 33) (hr : r < jm_nr k) (h1 : ∀ k' r', ¬ (k' = k ∧ r' = r) → σ'.1 k' r' = σ.1 k' r') (h2 : ∀ k' r', ¬ (k' = k ∧ r' = r) → σ'.2 k' r' = σ.2 k' r') : (jm_wd α cy σ).set (jm_bs k + r) (α k r, jm_ce α cy σ' k r) = jm_wd α cy σ' := by
  obtain ⟨e1, e2⟩ := jm_pk_ps k hk r hr
  apply List.ext_getElem?
  intro i
  rw [List.getElem?_set]
  by_cases hi : jm_bs k + r = i
  · subst hi
    rw [if_pos rfl, jm_wd_at hk hr]
    have hlen : jm_bs k + r < (jm_wd α cy σ).length := by simp [jm_wd]; exact e2
    rw [if_pos hlen]
  · rw [if_neg hi]
    by_cases hlt : i < 63
    · unfold jm_wd
      rw [List.getElem?_map, List.getElem?_map, List.getElem?_range hlt]
      simp only [Option.map_some]
      have hne : ¬ ((jm_pk i).1 = k ∧ (jm_pk i).2 = r) := fun q => hi (by have := jm_ps_pk i hlt; rw [q.1, q.2] at this; exact this)
      rw [jm_ce_congr (h1 _ _ hne) (h2 _ _ hne)]
    · rw [List.getElem?_eq_none (by simp [jm_wd]; omega), List.getElem?_eq_none (by simp [jm_wd]; omega)]
/-- addresses don't move -/
theorem jm_wd_ad {α : Nat → Nat → Nat} {cy : jm_C} {σ σ' : jm_S} {i : Nat} {q : Nat × va_E} (h : (jm_wd α cy σ)[i]? = some q) : ∃ q', (jm_wd α cy σ')[i]? = some q' ∧ q'.1 = q.1 := by
  unfold jm_wd at h ⊢
  rw [List.getElem?_map] at h ⊢
  cases hi : (List.range 63)[i]? with
  | none => rw [hi] at h; cases h
  | some p => rw [hi] at h; cases h; exact ⟨_, rfl, rfl⟩
theorem jm_wd_A {α : Nat → Nat → Nat} {cy : jm_C} {σ σ' : jm_S} {sz q : Nat} (h : va_A (jm_wd α cy σ) sz q) : va_A (jm_wd α cy σ') sz q := by
  rcases h with ⟨k, e, h⟩ | h
  · obtain ⟨⟨a, e'⟩, h1, h2⟩ := jm_wd_ad (σ' := σ') h
    dsimp only at h2
    subst h2
    exact Or.inl ⟨k, e', h1⟩
  · exact Or.inr h
theorem jm_wd_D {α : Nat → Nat → Nat} {cy : jm_C} {σ σ' : jm_S} {A : Nat → Prop} (h : va_D A (jm_wd α cy σ)) : va_D A (jm_wd α cy σ') := by
  refine ⟨fun i j p q hi hj hpq => ?_, fun k q hk => ?_⟩
  · obtain ⟨p', h1, h2⟩ := jm_wd_ad (σ' := σ) hi
    obtain ⟨q', h3, h4⟩ := jm_wd_ad (σ' := σ) hj
    exact h.1 i j p' q' h1 h3 (by rw [h2, h4, hpq])
  · obtain ⟨q', h1, h2⟩ := jm_wd_ad (σ' := σ) hk
    rw [← h2]
    exact h.2 k q' h1
-- valid refs
def jm_okr (q : Nat × Nat) : Prop := (q.1 < 33 ∧ q.2 < jm_nr q.1) ∨ (40 ≤ q.1 ∧ q.1 < 45 ∧ q.2 = 0)
def jm_okv (v : jm_V) : Prop := match v with
  | .inl _ => True
  | .inr q => jm_okr q
def jm_oks : List jm_V → Prop
  | [] => True
  | v :: l => jm_okv v ∧ jm_oks l
def jm_oko (o : Option jm_V) : Prop := match o with
  | none => True
  | some v => jm_okv v
def jm_okl : List (Option jm_V) → Prop
  | [] => True
  | o :: l => jm_oko o ∧ jm_okl l
theorem jm_okl_gl : ∀ {ls : List (Option jm_V)} {i : Nat} {v : jm_V}, jm_okl ls → jm_gl ls i = some v → jm_okv v
  | [], _, _, _, e => by cases e
  | o :: l, 0, v, h, e => by
    have e : o = some v := e
    subst e
    exact h.1
  | o :: l, n + 1, v, h, e => jm_okl_gl h.2 e
theorem jm_oko_kl {o : Option jm_V} (h : jm_oko o) : jm_oko (jm_kl o) := by
  match o, h with
  | none, _ => exact trivial
  | some (.inl (.inl x)), _ => exact trivial
  | some (.inl (.inr x)), _ => exact trivial
  | some (.inr q), h => exact h
theorem jm_okl_s1 : ∀ {ls : List (Option jm_V)} {i : Nat} {v : jm_V}, jm_okl ls → jm_okv v → jm_okl (jm_s1 ls i v)
  | [], _, _, _, _ => trivial
  | o :: l, 0, v, h, hv => ⟨hv, h.2⟩
  | o :: l, 1, v, h, hv => ⟨jm_oko_kl h.1, jm_okl_s1 (i := 0) h.2 hv⟩
  | o :: l, n + 2, v, h, hv => ⟨h.1, jm_okl_s1 (i := n + 1) h.2 hv⟩
theorem jm_okl_s2 : ∀ {ls : List (Option jm_V)} {i : Nat} {v : jm_V}, jm_okl ls → jm_okv v → jm_okl (jm_s2 ls i v)
  | [], _, _, _, _ => trivial
  | [o], 0, v, h, hv => ⟨hv, trivial⟩
  | o :: o2 :: l, 0, v, h, hv => ⟨hv, trivial, h.2.2⟩
  | o :: l, 1, v, h, hv => ⟨jm_oko_kl h.1, jm_okl_s2 (i := 0) h.2 hv⟩
  | o :: l, n + 2, v, h, hv => ⟨h.1, jm_okl_s2 (i := n + 1) h.2 hv⟩
-- locals as the kit has them
def jm_lc (α : Nat → Nat → Nat) : Nat → List (Option jm_V) → List (Nat × Value)
  | _, [] => []
  | i, none :: l => jm_lc α (i + 1) l
  | i, some v :: l => (i, jm_cv α v) :: jm_lc α (i + 1) l
theorem jm_lc_gl {α : Nat → Nat → Nat} : ∀ {ls : List (Option jm_V)} {i j : Nat} {v : jm_V}, jm_gl ls i = some v → (j + i, jm_cv α v) ∈ jm_lc α j ls
  | [], _, _, _, e => by cases e
  | o :: l, 0, j, v, e => by
    have e : o = some v := e
    subst e
    exact List.mem_cons_self
  | none :: l, n + 1, j, v, e => by
    have h := jm_lc_gl (α := α) (j := j + 1) (show jm_gl l n = some v from e)
    rw [show j + (n + 1) = j + 1 + n by omega]
    exact h
  | some u :: l, n + 1, j, v, e => by
    have h := jm_lc_gl (α := α) (j := j + 1) (show jm_gl l n = some v from e)
    rw [show j + (n + 1) = j + 1 + n by omega]
    exact List.mem_cons_of_mem _ h
theorem jm_lc_le {α : Nat → Nat → Nat} : ∀ {ls : List (Option jm_V)} {j : Nat} {q : Nat × Value}, q ∈ jm_lc α j ls → j ≤ q.1
  | [], _, _, h => by cases h
  | none :: l, j, q, h => Nat.le_of_succ_le (jm_lc_le (ls := l) (j := j + 1) h)
  | some u :: l, j, q, h => by
    rcases List.mem_cons.mp h with e | h
    · rw [e]; exact Nat.le_refl _
    · exact Nat.le_of_succ_le (jm_lc_le (ls := l) (j := j + 1) h)
theorem jm_cv_kl {α : Nat → Nat → Nat} {o : Option jm_V} {v : jm_V} (h : jm_kl o = some v) : o = some v ∧ (jm_cv α v).category = 1 := by
  match o, h with
  | none, h => cases h
  | some (.inl (.inl x)), h => cases h; exact ⟨rfl, rfl⟩
  | some (.inl (.inr x)), h => cases h
  | some (.inr (a, b)), h => cases h; exact ⟨rfl, rfl⟩
theorem jm_lc_s1 {α : Nat → Nat → Nat} : ∀ {ls : List (Option jm_V)} {i j : Nat} {v : jm_V} {q : Nat × Value}, q ∈ jm_lc α j (jm_s1 ls i v) → q = (j + i, jm_cv α v) ∨ (q ∈ jm_lc α j ls ∧ q.1 ≠ j + i ∧ ¬ (q.1 + 1 = j + i ∧ q.2.category = 2))
  | [], _, _, _, _, h => by cases h
  | o :: l, 0, j, v, q, h => by
    rcases List.mem_cons.mp h with e | h9
    · exact Or.inl e
    · have hle := jm_lc_le h9
      refine Or.inr ⟨?_, by omega, fun z => by omega⟩
      clear h
      cases o with
      | none => exact h9
      | some u => exact List.mem_cons_of_mem _ h9
  | o :: l, 1, j, v, q, h => by
    have key : ∀ {q}, q ∈ jm_lc α (j + 1) (jm_s1 l 0 v) → q = (j + 1, jm_cv α v) ∨ (q ∈ jm_lc α j (o :: l) ∧ q.1 ≠ j + 1 ∧ ¬ (q.1 + 1 = j + 1 ∧ q.2.category = 2)) := by
      intro q h
      rcases jm_lc_s1 (ls := l) (i := 0) (j := j + 1) h with e | ⟨h1, h2, h3⟩
      · exact Or.inl e
      · have hle := jm_lc_le h1
        refine Or.inr ⟨?_, by omega, fun z => by omega⟩
        cases o with
        | none => exact h1
        | some u => exact List.mem_cons_of_mem _ h1
    have h : q ∈ jm_lc α j (jm_kl o :: jm_s1 l 0 v) := h
    cases hk : jm_kl o with
    | none => rw [hk] at h; exact key h
    | some u =>
      rw [hk] at h
      rcases List.mem_cons.mp h with e | h
      · obtain ⟨e1, e2⟩ := jm_cv_kl (α := α) hk
        subst e1
        rw [e]
        refine Or.inr ⟨List.mem_cons_self, by show j ≠ j + 1; omega, fun z => ?_⟩
        have : (jm_cv α u).category = 2 := z.2
        omega
      · exact key h
  | o :: l, n + 2, j, v, q, h => by
    have key : ∀ {q}, q ∈ jm_lc α (j + 1) (jm_s1 l (n + 1) v) → q = (j + (n + 2), jm_cv α v) ∨ (q ∈ jm_lc α j (o :: l) ∧ q.1 ≠ j + (n + 2) ∧ ¬ (q.1 + 1 = j + (n + 2) ∧ q.2.category = 2)) := by
      intro q h
      rcases jm_lc_s1 (ls := l) (i := n + 1) (j := j + 1) h with e | ⟨h1, h2, h3⟩
      · exact Or.inl (by rw [e]; congr 1; omega)
      · refine Or.inr ⟨?_, by omega, fun z => h3 ⟨by omega, z.2⟩⟩
        cases o with
        | none => exact h1
        | some u => exact List.mem_cons_of_mem _ h1
    have h : q ∈ jm_lc α j (o :: jm_s1 l (n + 1) v) := h
    cases o with
    | none => exact key h
    | some u =>
      rcases List.mem_cons.mp h with e | h
      · rw [e]
        exact Or.inr ⟨List.mem_cons_self, by show j ≠ j + (n + 2); omega, fun z => by have := z.1; dsimp only at this; omega⟩
      · exact key h
theorem jm_lc_s2 {α : Nat → Nat → Nat} : ∀ {ls : List (Option jm_V)} {i j : Nat} {v : jm_V} {q : Nat × Value}, q ∈ jm_lc α j (jm_s2 ls i v) → q = (j + i, jm_cv α v) ∨ (q ∈ jm_lc α j ls ∧ q.1 ≠ j + i ∧ q.1 ≠ j + i + 1 ∧ ¬ (q.1 + 1 = j + i ∧ q.2.category = 2))
  | [], _, _, _, _, h => by cases h
  | [o], 0, j, v, q, h => by
    rcases List.mem_cons.mp h with e | h
    · exact Or.inl e
    · cases h
  | o :: o2 :: l, 0, j, v, q, h => by
    rcases List.mem_cons.mp h with e | h
    · exact Or.inl e
    · have h : q ∈ jm_lc α (j + 1 + 1) l := h
      have hle := jm_lc_le h
      refine Or.inr ⟨?_, by omega, by omega, fun z => by omega⟩
      have h2 : q ∈ jm_lc α (j + 1) (o2 :: l) := by
        cases o2 with
        | none => exact h
        | some u => exact List.mem_cons_of_mem _ h
      cases o with
      | none => exact h2
      | some u => exact List.mem_cons_of_mem _ h2
  | o :: l, 1, j, v, q, h => by
    have key : ∀ {q}, q ∈ jm_lc α (j + 1) (jm_s2 l 0 v) → q = (j + 1, jm_cv α v) ∨ (q ∈ jm_lc α j (o :: l) ∧ q.1 ≠ j + 1 ∧ q.1 ≠ j + 1 + 1 ∧ ¬ (q.1 + 1 = j + 1 ∧ q.2.category = 2)) := by
      intro q h
      rcases jm_lc_s2 (ls := l) (i := 0) (j := j + 1) h with e | ⟨h1, h2, h3, h4⟩
      · exact Or.inl e
      · have hle := jm_lc_le h1
        refine Or.inr ⟨?_, by omega, by omega, fun z => by omega⟩
        cases o with
        | none => exact h1
        | some u => exact List.mem_cons_of_mem _ h1
    have h : q ∈ jm_lc α j (jm_kl o :: jm_s2 l 0 v) := h
    cases hk : jm_kl o with
    | none => rw [hk] at h; exact key h
    | some u =>
      rw [hk] at h
      rcases List.mem_cons.mp h with e | h
      · obtain ⟨e1, e2⟩ := jm_cv_kl (α := α) hk
        subst e1
        rw [e]
        refine Or.inr ⟨List.mem_cons_self, by show j ≠ j + 1; omega, by show j ≠ j + 1 + 1; omega, fun z => ?_⟩
        have : (jm_cv α u).category = 2 := z.2
        omega
      · exact key h
  | o :: l, n + 2, j, v, q, h => by
    have key : ∀ {q}, q ∈ jm_lc α (j + 1) (jm_s2 l (n + 1) v) → q = (j + (n + 2), jm_cv α v) ∨ (q ∈ jm_lc α j (o :: l) ∧ q.1 ≠ j + (n + 2) ∧ q.1 ≠ j + (n + 2) + 1 ∧ ¬ (q.1 + 1 = j + (n + 2) ∧ q.2.category = 2)) := by
      intro q h
      rcases jm_lc_s2 (ls := l) (i := n + 1) (j := j + 1) h with e | ⟨h1, h2, h3, h4⟩
      · exact Or.inl (by rw [e]; congr 1; omega)
      · refine Or.inr ⟨?_, by omega, by omega, fun z => h4 ⟨by omega, z.2⟩⟩
        cases o with
        | none => exact h1
        | some u => exact List.mem_cons_of_mem _ h1
    have h : q ∈ jm_lc α j (o :: jm_s2 l (n + 1) v) := h
    cases o with
    | none => exact key h
    | some u =>
      rcases List.mem_cons.mp h with e | h
      · rw [e]
        exact Or.inr ⟨List.mem_cons_self, by show j ≠ j + (n + 2); omega, by show j ≠ j + (n + 2) + 1; omega, fun z => by have := z.1; dsimp only at this; omega⟩
      · exact key h
/-- locals behind a store, as the kit's rows give them -/
theorem jm_lv_s1 {α : Nat → Nat → Nat} {ls' : Array Slot} {nL i : Nat} {ls : List (Option jm_V)} {v : jm_V} (h : lv_has ls' nL ((i, jm_cv α v) :: (jm_lc α 0 ls).filter (fun q => !(q.1 == i) && !(q.1 + 1 == i && q.2.category == 2)))) : lv_has ls' nL (jm_lc α 0 (jm_s1 ls i v)) := by
  refine ⟨h.1, h.2.1, fun q hq => h.2.2 q ?_⟩
  rcases jm_lc_s1 hq with e | ⟨h1, h2, h3⟩
  · rw [Nat.zero_add] at e
    rw [e]
    exact List.mem_cons_self
  · rw [Nat.zero_add] at h2 h3
    refine List.mem_cons_of_mem _ (List.mem_filter.mpr ⟨h1, ?_⟩)
    simp only [Bool.and_eq_true, Bool.not_eq_true', beq_eq_false_iff_ne, ne_eq, Bool.and_eq_false_iff]
    refine ⟨h2, ?_⟩
    by_cases e1 : q.1 + 1 = i
    · exact Or.inr fun e2 => h3 ⟨e1, e2⟩
    · exact Or.inl e1
theorem jm_lv_s2 {α : Nat → Nat → Nat} {ls' : Array Slot} {nL i : Nat} {ls : List (Option jm_V)} {v : jm_V} (h : lv_has ls' nL ((i, jm_cv α v) :: (jm_lc α 0 ls).filter (fun q => !(q.1 == i) && (!(q.1 == i + 1) && !(q.1 + 1 == i && q.2.category == 2))))) : lv_has ls' nL (jm_lc α 0 (jm_s2 ls i v)) := by
  refine ⟨h.1, h.2.1, fun q hq => h.2.2 q ?_⟩
  rcases jm_lc_s2 hq with e | ⟨h1, h2, h3, h4⟩
  · rw [Nat.zero_add] at e
    rw [e]
    exact List.mem_cons_self
  · rw [Nat.zero_add] at h2 h3 h4
    refine List.mem_cons_of_mem _ (List.mem_filter.mpr ⟨h1, ?_⟩)
    simp only [Bool.and_eq_true, Bool.not_eq_true', beq_eq_false_iff_ne, ne_eq, Bool.and_eq_false_iff]
    refine ⟨h2, h3, ?_⟩
    by_cases e1 : q.1 + 1 = i
    · exact Or.inr fun e2 => h4 ⟨e1, e2⟩
    · exact Or.inl e1
theorem jm_lv_at {α : Nat → Nat → Nat} {lsA : Array Slot} {nL i : Nat} {ls : List (Option jm_V)} {v : jm_V} (h : lv_has lsA nL (jm_lc α 0 ls)) (e : jm_gl ls i = some v) : lsA[i]? = some (.val (jm_cv α v)) := by
  have h1 := h.2.2 _ (jm_lc_gl (α := α) (j := 0) e)
  rw [Nat.zero_add] at h1
  exact h1
