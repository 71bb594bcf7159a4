-- METHODS: shaft, the pair
theorem r_fno (σ : jm_S) {x : Nat × Nat} (hd : rDd σ x) : jm_call 59 jM_failed [jm_R 21 0] σ = some (some (jm_I 1), jm_wi (jm_wi σ 21 0 11 0) 21 0 18 (σ.1 21 0 16)) := by
  have hn : ¬ σ.1 21 0 16 ≤ 0 := by
    rw [hd.1, jm_te32, nI_toInt (by have := hd.2.2.2; omega), show (0 : Int32).toInt = 0 from rfl]
    have := hd.2.2.1
    omega
  have hn' : ¬ (jm_wi σ 21 0 11 0).1 21 0 16 ≤ 0 := hn
  rw [gM_failed_0, jm_ct hd.ne, gM_failed_20, jm_cf hn, gM_failed_44, jm_cf hn', gM_failed_59, jm_b1, cond_true]
theorem r_fbad (σ : jm_S) (h16 : σ.1 21 0 16 = 0) (h14 : ¬ σ.1 21 0 14 = 1) (hd : ¬ (rBl σ 1).1 21 0 16 = 0) : jm_call 59 jM_failed [jm_R 21 0] σ = jm_call 59 jM_failed [jm_R 21 0] (rBl σ 1) := by
  rw [gM_failed_0, gM_failed_0, jm_cf (fun h9 => h9 h16), jm_cf h14, lv_bad 57 σ 1 h16, Option.bind_some, jm_pn, jm_ct hd]
theorem r_120 (σ0 σ τ : jm_S) {x : Nat × Nat} (hd : rDd τ x) (hz : fZ σ0 τ) (hf : jm_call 59 jM_failed [jm_R 21 0] σ = jm_call 59 jM_failed [jm_R 21 0] τ) (x1 x2 : Int32) : ∃ σ', jm_ev 59 (jM_shaft, 124, shF x1 (some (jm_I x2)), [jm_I 0], σ) = some (some (jm_I (-1000100 - nI x.2)), σ') ∧ oNO σ0 x σ' := by
  obtain ⟨σ', e1, e2⟩ := r_end_no σ0 τ hd hz x1 x2
  refine ⟨σ', ?_, e2⟩
  rw [r_fno τ hd, Option.bind_some, jm_ps] at e1
  rw [gM_shaft_124, jm_ct (show (0 : Int32) = 0 from rfl), hf, r_fno τ hd, Option.bind_some, jm_ps]
  exact e1
theorem d_120 (σ0 σ : jm_S) {x : Nat × Nat} (hd : rDd σ x) (hz : fZ σ0 σ) (x1 x2 : Int32) : ∃ σ', jm_ev 59 (jM_shaft, 120, shF x1 (some (jm_I x2)), [], σ) = some (some (jm_I (-1000100 - nI x.2)), σ') ∧ oNO σ0 x σ' := by
  obtain ⟨σ', e1, e2⟩ := r_120 σ0 σ σ hd hz rfl x1 x2
  exact ⟨σ', by rw [gM_shaft_120, dd_sort 58 σ hd.ne, Option.bind_some, jm_ps]; exact e1, e2⟩
theorem d_90 (σ0 σ : jm_S) {x : Nat × Nat} (hd : rDd σ x) (hz : fZ σ0 σ) (x1 : Int32) : ∀ (f k : Nat), k + f = 2 → ∃ σ', jm_ev 59 (jM_shaft, 90, shF x1 (some (jm_I (nI k))), [], σ) = some (some (jm_I (-1000100 - nI x.2)), σ') ∧ oNO σ0 x σ' := by
  intro f
  induction f with
  | zero =>
    intro k h
    have : k = 2 := by omega
    subst this
    obtain ⟨σ', e1, e2⟩ := d_120 σ0 σ hd hz x1 (nI 2)
    exact ⟨σ', by rw [gM_shaft_90, jm_ct (show (2 : Int32) ≤ nI 2 by decide)]; exact e1, e2⟩
  | succ f ih =>
    intro k h
    obtain ⟨σ', e1, e2⟩ := ih (k + 1) (by omega)
    refine ⟨σ', ?_, e2⟩
    rw [gM_shaft_90, jm_cf (show ¬ (2 : Int32) ≤ nI k from nI_ge (b := 2) (by omega) (by decide)), dd_sort 58 σ hd.ne, Option.bind_some, jm_ps, gM_shaft_99, jm_cf (fun h9 => h9 rfl), dd_bad 58 σ 1 hd.ne, Option.bind_some, jm_pn, gM_shaft_107, gM_shaft_114, nI_1]
    exact e1
def ent (T : sS) (σ : jm_S) (E : Option jm_Rs) : Prop := (T.1 < 2 ∧ ∃ x1, E = jm_ev 59 (jM_shaft, 90, shF x1 (some (jm_I (nI T.1))), [], σ)) ∨ (2 ≤ T.1 ∧ ∃ x1 x2, E = jm_ev 59 (jM_shaft, 120, shF x1 (some (jm_I x2)), [], σ))
theorem TS.end {σ : jm_S} {q : PT} (h : TS σ q q.1) : σ.1 21 0 14 = 1 := by
  rcases h.2.2 with ⟨h1, h2⟩ | ⟨h1, _⟩ | ⟨h1, _⟩ | ⟨h1, _⟩ | ⟨h1, _⟩
  · exact h2
  · exact absurd h1 (Nat.lt_irrefl _)
  · exact absurd (pF_lt h1) (Nat.lt_irrefl _)
  · exact absurd h1 (Nat.lt_irrefl _)
  · exact absurd h1 (Nat.lt_irrefl _)
theorem TS.noe {σ : jm_S} {q : PT} {a : Nat} (h : TS σ q a) (h9 : ¬ a = q.1) : ¬ σ.1 21 0 14 = 1 := by
  rcases h.2.2 with ⟨h1, h2⟩ | ⟨h1, h2, h3, h4, h5⟩ | ⟨h1, h2, h3, h4, h5⟩ | ⟨h1, h2, h3, h4, h5⟩ | ⟨h1, h2, h3⟩
  · exact absurd h1 h9
  · rw [h3]; decide
  · rw [h3]; decide
  · rw [h3]; decide
  · rw [h2]; decide
theorem r_dl (σ0 : jm_S) {q : PT} (hT0 : rTq σ0 q) (h80 : q.1 ≤ 80) : ∀ (f : Nat) (T : sS) (a : Nat) (σ : jm_S) (E : Option jm_Rs), T.1 + f = 7 → fZ σ0 σ → TS σ q a → rS (σ.1 25 1) T → ent T σ E →
    (∀ T', pC q f T a = .inl T' → ∃ σ', E = some (some (jm_I (nI T'.1)), σ') ∧ oOK σ0 T' σ') ∧
    (∀ x, pC q f T a = .inr x → 0 < f → ∃ σ', E = some (some (jm_I (-1000100 - nI x.2)), σ') ∧ oNO σ0 x σ') := by
  intro f
  induction f with
  | zero => exact fun T a σ E h hz hS hR hE => ⟨fun T' h9 => (by cases h9), fun x _ h9 => absurd h9 (by omega)⟩
  | succ f ih =>
    intro T a σ E h hz hS hR hE
    have hT6 : T.1 ≤ 6 := by omega
    have hT := hz.T hT0
    rw [pC_s]
    by_cases hend : a = q.1 ∧ 2 ≤ T.1
    · rw [if_pos hend]
      refine ⟨fun T' h9 => ?_, fun x h9 => (by cases h9)⟩
      cases h9
      rcases hE with ⟨h2, _⟩ | ⟨_, x1, x2, rfl⟩
      · exact absurd hend.2 (by omega)
      · have hS' := hS
        rw [hend.1] at hS'
        obtain ⟨σ', e1, e2⟩ := r_end_ok σ0 σ hS.2.1 hS'.end hR hT6 hz x1 x2
        refine ⟨σ', ?_, e2⟩
        rw [gM_shaft_120, r_sort 57 σ hS', pB_end, if_pos (show pK (-1) = 0 by decide), Option.bind_some, jm_ps, gM_shaft_124, jm_ct (show (0 : Int32) = 0 from rfl)]
        exact e1
    · rw [if_neg hend]
      by_cases hk : pK (pB q a) = 0
      · rw [if_pos hk]
        refine ⟨fun T' h9 => (by cases h9), fun x h9 _ => ?_⟩
        cases h9
        have hd : rDd (rBl σ 1) (1, a) := rBl_d (f := 1) hS.1 (by omega) (by omega)
        have hzd : fZ σ0 (rBl σ 1) := hz.tr (rBl_f σ 1).z
        rcases hE with ⟨h2, x1, rfl⟩ | ⟨h2, x1, x2, rfl⟩
        · obtain ⟨σ', e1, e2⟩ := d_90 σ0 (rBl σ 1) hd hzd x1 (2 - (T.1 + 1)) (T.1 + 1) (by omega)
          refine ⟨σ', ?_, e2⟩
          rw [gM_shaft_90, jm_cf (show ¬ (2 : Int32) ≤ nI T.1 from nI_ge (b := 2) h2 (by decide)), r_sort 57 σ hS, if_pos hk, Option.bind_some, jm_ps, gM_shaft_99, jm_cf (fun h9 => h9 rfl), lv_bad 58 σ 1 hS.2.1, Option.bind_some, jm_pn, gM_shaft_107, gM_shaft_114, nI_1]
          exact e1
        · obtain ⟨σ', e1, e2⟩ := r_120 σ0 σ (rBl σ 1) hd hzd (r_fbad σ hS.2.1 (hS.noe (fun h9 => hend ⟨h9, h2⟩)) hd.ne) x1 x2
          refine ⟨σ', ?_, e2⟩
          rw [gM_shaft_120, r_sort 57 σ hS, if_pos hk, Option.bind_some, jm_ps]
          exact e1
      · rw [if_neg hk]
        obtain ⟨r6, rn⟩ := r_rd 54 σ hT h80 hS hk hR hT6
        by_cases h7 : T.1 = 6
        · rw [if_pos h7]
          refine ⟨fun T' h9 => (by cases h9), fun x h9 _ => ?_⟩
          cases h9
          obtain ⟨σ1, i1, i2, i3⟩ := r6 h7
          rcases hE with ⟨h2, _⟩ | ⟨h2, x1, x2, rfl⟩
          · exact absurd h2 (by omega)
          · obtain ⟨σ', e1, e2⟩ := d_120 σ0 σ1 i2 (hz.tr i3) x1 x2
            refine ⟨σ', ?_, e2⟩
            rw [gM_shaft_120, r_sort 57 σ hS, if_neg hk, Option.bind_some, jm_ps, gM_shaft_124, jm_cf (show ¬ (1 : Int32) = 0 by decide), i1, Option.bind_some, jm_pn, gM_shaft_131]
            exact e1
        · rw [if_neg h7]
          obtain ⟨rg, rb⟩ := rn h7
          have nxt : ∀ σ1, jm_call 59 jM_readDisc [jm_R 21 0] σ = some (none, σ1) → (T.1 < 2 ∧ ∃ x1, E = jm_ev 59 (jM_shaft, 90, shF x1 (some (jm_I (nI (T.1 + 1)))), [], σ1)) ∨ (2 ≤ T.1 ∧ ∃ x1 x2, E = jm_ev 59 (jM_shaft, 120, shF x1 (some (jm_I x2)), [], σ1)) := fun σ1 i1 => by
            rcases hE with ⟨h2, x1, rfl⟩ | ⟨h2, x1, x2, rfl⟩
            · refine Or.inl ⟨h2, x1, ?_⟩
              rw [gM_shaft_90, jm_cf (show ¬ (2 : Int32) ≤ nI T.1 from nI_ge (b := 2) h2 (by decide)), r_sort 57 σ hS, if_neg hk, Option.bind_some, jm_ps, gM_shaft_99, jm_ct (show ¬ (1 : Int32) = 0 by decide), i1, Option.bind_some, jm_pn, gM_shaft_114, nI_1]
            · refine Or.inr ⟨h2, x1, x2, ?_⟩
              rw [gM_shaft_120, r_sort 57 σ hS, if_neg hk, Option.bind_some, jm_ps, gM_shaft_124, jm_cf (show ¬ (1 : Int32) = 0 by decide), i1, Option.bind_some, jm_pn, gM_shaft_131]
          cases hD : pD q (a + 1) with
          | inr y =>
            obtain ⟨σ1, i1, i2, i3⟩ := rb _ hD
            refine ⟨fun T' h9 => (by cases h9), fun x h9 _ => ?_⟩
            cases h9
            rcases nxt σ1 i1 with ⟨h2, x1, rfl⟩ | ⟨h2, x1, x2, rfl⟩
            · exact d_90 σ0 σ1 i2 (hz.tr i3) x1 (2 - (T.1 + 1)) (T.1 + 1) (by omega)
            · exact d_120 σ0 σ1 i2 (hz.tr i3) x1 x2
          | inl r =>
            obtain ⟨σ1, i1, i2, i3, i4⟩ := rg _ hD
            have hE1 : ent (pU T (pK (pB q a)) r.1) σ1 E := by
              rcases nxt σ1 i1 with ⟨h2, x1, hx⟩ | ⟨h2, x1, x2, hx⟩
              · by_cases h3 : T.1 + 1 < 2
                · exact Or.inl ⟨h3, x1, hx⟩
                · refine Or.inr ⟨show 2 ≤ T.1 + 1 by omega, x1, nI (T.1 + 1), ?_⟩
                  rw [hx, gM_shaft_90, show T.1 + 1 = 2 by omega, jm_ct (show (2 : Int32) ≤ nI 2 by decide)]
              · exact Or.inr ⟨show 2 ≤ T.1 + 1 by omega, x1, x2, hx⟩
            obtain ⟨u1, u2⟩ := ih (pU T (pK (pB q a)) r.1) r.2 σ1 E (by show T.1 + 1 + f = 7; omega) (hz.tr i4) i2 i3 hE1
            exact ⟨fun T' h9 => u1 T' h9, fun x h9 _ => u2 x h9 (by omega)⟩
theorem r_shaft (σ : jm_S) {q : PT} (hT : rTq σ q) (h80 : q.1 ≤ 80) :
    (∀ T, pA q = .inl T → ∃ σ', jm_call 60 jM_shaft [jm_R 21 0] σ = some (some (jm_I (nI T.1)), σ') ∧ oOK (jm_wi σ 21 0 0 0) T σ') ∧
    (∀ x, pA q = .inr x → ∃ σ', jm_call 60 jM_shaft [jm_R 21 0] σ = some (some (jm_I (-1000100 - nI x.2)), σ') ∧ oNO (jm_wi σ 21 0 0 0) x σ') := by
  obtain ⟨σ1, x1, e1, e2, e3, e4⟩ := r_law σ hT h80
  cases hW : pW q with
  | inr y =>
    have hA : pA q = .inr y := by unfold pA; rw [hW]; rfl
    refine ⟨fun T h9 => (by rw [hA] at h9; cases h9), fun x h9 => ?_⟩
    rw [hA] at h9
    cases h9
    obtain ⟨σ', g1, g2⟩ := d_90 (jm_wi σ 21 0 0 0) σ1 (e3 _ hW) e4 x1 2 0 rfl
    exact ⟨σ', e1.trans g1, g2⟩
  | inl m =>
    have hA : pA q = pC q 7 (0, m.1, fun _ _ => 0) m.2 := by unfold pA; rw [hW]; rfl
    obtain ⟨i1, i2⟩ := e2 _ hW
    obtain ⟨u1, u2⟩ := r_dl (jm_wi σ 21 0 0 0) hT h80 7 (0, m.1, fun _ _ => 0) m.2 σ1 _ rfl e4 i1 i2 (Or.inl ⟨show 0 < 2 by omega, x1, rfl⟩)
    rw [hA]
    refine ⟨fun T h9 => ?_, fun x h9 => ?_⟩
    · obtain ⟨σ', v1, v2⟩ := u1 T h9
      exact ⟨σ', e1.trans v1, v2⟩
    · obtain ⟨σ', v1, v2⟩ := u2 x h9 (by omega)
      exact ⟨σ', e1.trans v1, v2⟩
-- what is read is in order
def okR (T : sS) : Prop := (0 ≤ T.2.1.toInt ∧ T.2.1.toInt ≤ 200) ∧ ∀ d, d < T.1 → (1 ≤ (T.2.2 0 d).toInt ∧ (T.2.2 0 d).toInt ≤ 5) ∧ (0 ≤ (T.2.2 1 d).toInt ∧ (T.2.2 1 d).toInt ≤ 40) ∧ (0 ≤ (T.2.2 2 d).toInt ∧ (T.2.2 2 d).toInt ≤ 9) ∧ (1 ≤ (T.2.2 3 d).toInt ∧ (T.2.2 3 d).toInt ≤ 5)
theorem pD_ok {q : PT} {a : Nat} {r : (Int32 × Int32 × Int32) × Nat} (h : pD q a = .inl r) : (1 ≤ r.1.1.toInt ∧ r.1.1.toInt ≤ 5) ∧ (0 ≤ r.1.2.1.toInt ∧ r.1.2.1.toInt ≤ 40) ∧ (0 ≤ r.1.2.2.toInt ∧ r.1.2.2.toInt ≤ 9) := by
  unfold pD at h
  cases h1 : pX q 1 5 44 a with
  | inr x => rw [h1] at h; cases h
  | inl j =>
    rw [h1] at h
    have h : pb (pX q 0 40 44 j.2) (fun k => pb (pX q 0 9 59 k.2) fun n => .inl ((j.1, k.1, n.1), n.2)) = .inl r := h
    cases h2 : pX q 0 40 44 j.2 with
    | inr x => rw [h2] at h; cases h
    | inl k =>
      rw [h2] at h
      have h : pb (pX q 0 9 59 k.2) (fun n => .inl ((j.1, k.1, n.1), n.2)) = .inl r := h
      cases h3 : pX q 0 9 59 k.2 with
      | inr x => rw [h3] at h; cases h
      | inl n =>
        rw [h3] at h
        cases h
        exact ⟨(pX_ok (by decide) h1).2, (pX_ok (by decide) h2).2, (pX_ok (by decide) h3).2⟩
theorem okR.push {T : sS} (h : okR T) {k : Nat} (hk : 1 ≤ k ∧ k ≤ 5) {r : Int32 × Int32 × Int32} (hr : (1 ≤ r.1.toInt ∧ r.1.toInt ≤ 5) ∧ (0 ≤ r.2.1.toInt ∧ r.2.1.toInt ≤ 40) ∧ (0 ≤ r.2.2.toInt ∧ r.2.2.toInt ≤ 9)) : okR (pU T k r) := by
  refine ⟨h.1, fun d hd => ?_⟩
  have hd' : d < T.1 + 1 := hd
  by_cases hd1 : d = T.1
  · have hu : ∀ w, (pU T k r).2.2 w d = (if w = 0 then r.1 else if w = 1 then r.2.1 else if w = 2 then r.2.2 else nI k) := fun w => if_pos hd1
    rw [hu 0, hu 1, hu 2, hu 3]
    refine ⟨hr.1, hr.2.1, hr.2.2, ?_⟩
    show 1 ≤ (nI k).toInt ∧ (nI k).toInt ≤ 5
    rw [nI_toInt (by omega)]
    omega
  · have hu : ∀ w, (pU T k r).2.2 w d = T.2.2 w d := fun w => if_neg hd1
    rw [hu 0, hu 1, hu 2, hu 3]
    exact h.2 d (by omega)
theorem pC_ok {q : PT} : ∀ (f : Nat) (T : sS) (a : Nat) (T' : sS), T.1 + f = 7 → okR T → pC q f T a = .inl T' → okS T' := by
  intro f
  induction f with
  | zero => exact fun T a T' h hk h9 => (by cases h9)
  | succ f ih =>
    intro T a T' h hk h9
    rw [pC_s] at h9
    by_cases hend : a = q.1 ∧ 2 ≤ T.1
    · rw [if_pos hend] at h9
      cases h9
      exact ⟨by omega, Or.inr hend.2, hk.1, hk.2⟩
    · rw [if_neg hend] at h9
      by_cases h0 : pK (pB q a) = 0
      · rw [if_pos h0] at h9; cases h9
      · rw [if_neg h0] at h9
        by_cases h7 : T.1 = 6
        · rw [if_pos h7] at h9; cases h9
        · rw [if_neg h7] at h9
          cases hD : pD q (a + 1) with
          | inr y => rw [hD] at h9; cases h9
          | inl r =>
            rw [hD] at h9
            exact ih (pU T (pK (pB q a)) r.1) r.2 T' (by show T.1 + 1 + f = 7; omega) (hk.push ⟨by omega, pK_le _⟩ (pD_ok hD)) h9
theorem pA_ok {q : PT} {T : sS} (h : pA q = .inl T) : okS T := by
  unfold pA at h
  cases hW : pW q with
  | inr y => rw [hW] at h; cases h
  | inl m =>
    rw [hW] at h
    refine pC_ok 7 (0, m.1, fun _ _ => 0) m.2 T rfl ⟨?_, fun d hd => absurd hd (Nat.not_lt_zero d)⟩ h
    unfold pW at hW
    cases h1 : pS q 109 0 with
    | inr x => rw [h1] at hW; cases hW
    | inl a1 =>
      rw [h1] at hW
      have hW : pb (pX q 0 20 44 a1) (fun t => pb (pX q 0 (if t.1 = 20 then 0 else 9) 59 t.2) fun w => .inl (10 * t.1 + w.1, w.2)) = .inl m := hW
      cases h2 : pX q 0 20 44 a1 with
      | inr x => rw [h2] at hW; cases hW
      | inl t =>
        rw [h2] at hW
        have hW : pb (pX q 0 (if t.1 = 20 then 0 else 9) 59 t.2) (fun w => .inl (10 * t.1 + w.1, w.2)) = .inl m := hW
        cases h3 : pX q 0 (if t.1 = 20 then 0 else 9) 59 t.2 with
        | inr x => rw [h3] at hW; cases hW
        | inl w =>
          rw [h3] at hW
          cases hW
          obtain ⟨_, b1, b2⟩ := pX_ok (by decide) h2
          obtain ⟨_, c1, c2⟩ := pX_ok (by decide) h3
          have z0 : (0 : Int32).toInt = 0 := rfl
          have z20 : (20 : Int32).toInt = 20 := rfl
          have z9 : (9 : Int32).toInt = 9 := rfl
          obtain ⟨k, hk, hk2⟩ := jm_nI_of (x := t.1) (n := 21) b1 (by omega)
          have c3 : w.1.toInt ≤ 9 := by
            by_cases h20 : t.1 = 20
            · rw [if_pos h20] at c2; omega
            · rw [if_neg h20] at c2; omega
          obtain ⟨l, hl, hl2⟩ := jm_nI_of (x := w.1) (n := 10) c1 (by omega)
          show 0 ≤ (10 * t.1 + w.1).toInt ∧ (10 * t.1 + w.1).toInt ≤ 200
          rw [hk2, hl2, show (10 : Int32) = nI 10 from rfl, pk_mul, nI_add, nI_toInt (by omega)]
          by_cases h20 : t.1 = 20
          · rw [if_pos h20] at c2
            rw [hl2, nI_toInt (by omega)] at c2
            omega
          · have : ¬ k = 20 := fun h9 => h20 (by rw [hk2, h9]; rfl)
            omega
