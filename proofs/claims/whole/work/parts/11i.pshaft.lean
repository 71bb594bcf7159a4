-- METHODS: shaft, the pair theorem
theorem cRel.tp0 {σ σ1 : jm_S} {A : aS} (h : cRel σ A) (ha : jm_ag C579 σ σ1) : cRel (jm_wi σ1 5 0 1 0) (aTpW A (0, (aTp A).2)) := by
  obtain ⟨h1, h2, h3, h4, h5, h6, h7, h8⟩ := h
  have hb : jm_ag C579 σ (jm_wi σ1 5 0 1 0) := ha.tr (jm_ag.wi rfl)
  have e4 : (jm_wi σ1 5 0 1 0).1 4 = σ.1 4 := funext fun r => (hb 4 r rfl).1
  refine ⟨?_, ⟨rfl, fun j hj => absurd hj (Nat.not_lt_zero j)⟩, ?_, ?_, ?_, ?_, ?_, ?_⟩
  · rw [(hb 1 0 rfl).1, (hb 2 0 rfl).1, e4]; exact h1
  · exact cS_ag h3 hb rfl (fun w hw => by
      rcases (show w = 0 ∨ w = 1 ∨ w = 2 ∨ w = 3 by omega) with rfl | rfl | rfl | rfl <;> rfl)
  · rw [(hb 10 0 rfl).1, (hb 11 0 rfl).1, (hb 12 0 rfl).1, (hb 13 0 rfl).1]; exact h4
  · intro k hk
    have h9 := h5 k hk
    have c7k : C579 7 (2 + k) = false := by
      rcases (show k = 0 ∨ k = 1 by omega) with rfl | rfl <;> rfl
    have c9k : ∀ w, w < 4 → C579 9 (4 * (2 + k) + w) = false := fun w hw => by
      have : Nat.blt (4 * (2 + k) + w) 8 = false := by
        cases hb : Nat.blt (4 * (2 + k) + w) 8 with
        | false => rfl
        | true => exact absurd (Nat.le_of_ble_eq_true hb) (by omega)
      simp only [C579, this, Bool.and_false, Bool.or_false]
      rfl
    show (match aIm A k with
      | none => (jm_wi σ1 5 0 1 0).1 7 (2 + k) 1 = 0
      | some T => cS (jm_wi σ1 5 0 1 0) (2 + k) T)
    cases hi : aIm A k with
    | none => rw [hi] at h9; show (jm_wi σ1 5 0 1 0).1 7 (2 + k) 1 = 0; rw [(hb 7 _ c7k).1]; exact h9
    | some T => rw [hi] at h9; exact cS_ag h9 hb c7k c9k
  · rw [(hb 0 0 rfl).1, (hb 20 0 rfl).1]; exact h6
  · rw [(hb 0 0 rfl).1]; exact h7
  · rw [(hb 0 0 rfl).1]; exact h8
theorem C579_cl {σ σ' : jm_S} (h : jm_ag C579 σ σ') : jm_ag Ccl σ σ' := h.mo (fun k r h9 => by
  have hk : 21 ≤ k := by
    cases hb : Nat.blt k 21 with
    | true => simp only [Ccl, hb] at h9; cases h9
    | false => exact Nat.le_of_not_lt fun q => by rw [show Nat.blt k 21 = true from Nat.ble_eq_true_of_le q] at hb; cases hb
  have : k ≠ 5 ∧ k ≠ 7 ∧ k ≠ 9 := by omega
  simp [C579, this])
theorem Ctf0_sh {σ σ1 : jm_S} (e2 : jm_ag (Ctf 0) σ σ1) : jm_ag Csh σ σ1 := e2.mo (fun g r h8 => by
  simp only [Csh, Bool.or_eq_false_iff] at h8
  cases h7 : (g == 7) with
  | true =>
    have h8 := h8.1.2
    rw [h7] at h8
    have h8 : Nat.blt r 2 = false := h8
    have hr0 : r ≠ 0 := fun q => by rw [q] at h8; cases h8
    have hg : g = 7 := by simpa using h7
    simp [Ctf, hg, hr0]
  | false =>
    cases h6 : (g == 9) with
    | true =>
      have h8 := h8.2
      rw [h6] at h8
      have h8 : Nat.blt r 8 = false := h8
      have hr4 : Nat.blt r (4 * 0 + 4) = false := by
        cases hb : Nat.blt r (4 * 0 + 4) with
        | false => rfl
        | true =>
          have := Nat.le_of_ble_eq_true hb
          rw [show Nat.blt r 8 = true from Nat.ble_eq_true_of_le (by omega)] at h8
          cases h8
      simp only [Ctf, h7, h6, hr4, Bool.and_false, Bool.or_false]
      rfl
    | false => simp only [Ctf, h7, h6]; rfl)
/-- the latest fault -/
abbrev aFtW (A : aS) (x : Int32) : aS := (A.1, A.2.1, A.2.2.1, A.2.2.2.1, A.2.2.2.2.1, A.2.2.2.2.2.1, x, A.2.2.2.2.2.2.2)
theorem cRel.ft {σ : jm_S} {A : aS} (h : cRel σ A) (x : Int32) : cRel (jm_wi σ 0 0 12 x) (aFtW A x) := ⟨h.1, h.2.1, h.2.2.1, h.2.2.2.1, h.2.2.2.2.1, h.2.2.2.2.2.1, rfl, h.2.2.2.2.2.2.2⟩
theorem C251_rf {σ σ' : jm_S} (h : jm_ag C251 σ σ') : jm_ag Crf σ σ' := h.mo (fun k r h9 => by
  have hk : k < 21 := by
    cases hb : Nat.ble 21 k with
    | true => simp only [Crf, hb] at h9; cases h9
    | false => exact Nat.lt_of_not_le fun q => by rw [Nat.ble_eq_true_of_le q] at hb; cases hb
  have : k ≠ 21 ∧ k ≠ 25 := by omega
  simp [C251, this])
theorem C2125_rf {σ σ' : jm_S} (h : jm_ag (fun k _ => k == 21 || k == 25) σ σ') : jm_ag Crf σ σ' := h.mo (fun k r h9 => by
  have hk : k < 21 := by
    cases hb : Nat.ble 21 k with
    | true => simp only [Crf, hb] at h9; cases h9
    | false => exact Nat.lt_of_not_le fun q => by rw [Nat.ble_eq_true_of_le q] at hb; cases hb
  have : k ≠ 21 ∧ k ≠ 25 := by omega
  simp [this])
theorem rRel.ok0 {σ σ' : jm_S} {A : aS} {T : sS} (h : rRel σ A) (ho : oOK σ T σ') : rRel σ' (aShW (aTpW A (0, (aTp A).2)) T (0, fun _ => T)) := by
  obtain ⟨h1, h2, h3, h4, h5, h6, h7, h8⟩ := h
  obtain ⟨o1, o2, o3, o4, o5⟩ := ho
  refine ⟨?_, ⟨o2, fun j hj => absurd hj (Nat.not_lt_zero j)⟩, o1, ⟨o3, fun i hi => absurd hi (Nat.not_lt_zero i)⟩, ?_, ?_, ?_, ?_⟩
  · rw [(o5 22 0 rfl).1, (o5 23 0 rfl).1, (o5 24 0 rfl).1]; exact h1
  · rw [(o5 30 0 rfl).1, (o5 31 0 rfl).1]; exact h5
  · rw [(o5 32 0 rfl).1]; exact ⟨(o4 25 (by simp)).trans h6.1, h6.2⟩
  · exact (o4 18 (by simp)).trans h7
  · exact (o4 1 (by simp)).trans h8
theorem rRel.no0 {σ σ' : jm_S} {A : aS} {x : Nat × Nat} (h : rRel σ A) (ho : oNO σ x σ') : rRel σ' (aFtW (aTpW A (0, (aTp A).2)) (nI x.1)) := by
  obtain ⟨h1, h2, h3, h4, h5, h6, h7, h8⟩ := h
  obtain ⟨o1, o2, o3, o4⟩ := ho
  refine ⟨?_, ⟨o1, fun j hj => absurd hj (Nat.not_lt_zero j)⟩, ?_, ?_, ?_, ?_, o2, ?_⟩
  · rw [(o4 22 0 rfl).1, (o4 23 0 rfl).1, (o4 24 0 rfl).1]; exact h1
  · rw [(o4 25 0 rfl).1]; exact h3
  · rw [(o4 26 0 rfl).1]; exact ⟨(o3 9 (by simp)).trans h4.1, h4.2⟩
  · rw [(o4 30 0 rfl).1, (o4 31 0 rfl).1]; exact h5
  · rw [(o4 32 0 rfl).1]; exact ⟨(o3 25 (by simp)).trans h6.1, h6.2⟩
  · exact (o3 1 (by simp)).trans h8
theorem P_shaft {A : aS} (hA : okA A) : Pair A jD_shaft jM_shaft [] := by
  have h80 := hA.2.1.1
  cases hP : pA (aTp A) with
  | inl T =>
    have hokT := pA_ok hP
    have hok : okA (aShW (aTpW A (0, (aTp A).2)) T (0, fun _ => T)) := ⟨hA.1, ⟨by show 0 ≤ 80; omega, fun j hj => absurd hj (Nat.not_lt_zero j)⟩, hokT, ⟨by show 0 ≤ 24; omega, rfl, fun i hi => absurd hi (Nat.not_lt_zero i)⟩, hA.2.2.2.2⟩
    refine ⟨jm_I (nI T.1), aShW (aTpW A (0, (aTp A).2)) T (0, fun _ => T), hok, fun σ hc => ?_, fun σ hr => ?_⟩
    · obtain ⟨σ1, e1, e2, e3⟩ := (c_reads 54 σ (q := aTp A) hc.2.1 h80).1 T hP
      have hc1 := hc.tp0 e3.2
      have hs1 : cS (jm_wi σ1 5 0 1 0) 1 T := e2
      obtain ⟨σ2, f1, f2, f3⟩ := c_takeFrom 58 (jm_wi σ1 5 0 1 0) (r0 := 0) (r1 := 1) (by omega) hokT.1 hs1
      have m0 := Ctf0_sh f2
      refine ⟨jm_wi σ2 10 0 3 0, ?_, cRel.sh hc1 (m0.tr (jm_ag.wi rfl)) f3 ⟨rfl, fun i hi => absurd hi (Nat.not_lt_zero i)⟩, ((C579_cl e3.2).tr (jm_ag.wi rfl)).tr (Csh_cl (m0.tr (jm_ag.wi rfl)))⟩
      rw [gD_shaft_0, e1, Option.bind_some, jm_ps, gD_shaft_11, jm_ct (show ¬ (1 : Int32) = 0 by decide), f1, Option.bind_some, jm_pn, gD_shaft_57, gA_forgetAll_0, Option.bind_some, jm_pn, gD_shaft_64]
      have h9 : (jm_wi σ2 10 0 3 0).1 7 0 1 = nI T.1 := f3.1
      rw [h9]
    · obtain ⟨σ', g1, g2⟩ := (r_shaft σ (q := aTp A) hr.2.1 h80).1 T hP
      exact ⟨σ', g1, (hr.th 0).ok0 g2, (jm_ag.wi rfl).tr (C2125_rf g2.2.2.2.2)⟩
  | inr x =>
    have hok : okA (aFtW (aTpW A (0, (aTp A).2)) (nI x.1)) := ⟨hA.1, ⟨by show 0 ≤ 80; omega, fun j hj => absurd hj (Nat.not_lt_zero j)⟩, hA.2.2⟩
    refine ⟨jm_I (-1000100 - nI x.2), aFtW (aTpW A (0, (aTp A).2)) (nI x.1), hok, fun σ hc => ?_, fun σ hr => ?_⟩
    · obtain ⟨σ1, e1, e2, e3⟩ := (c_reads 54 σ (q := aTp A) hc.2.1 h80).2 x hP
      refine ⟨jm_wi (jm_wi σ1 5 0 1 0) 0 0 12 (nI x.1), ?_, (hc.tp0 e3.2).ft _, ((C579_cl e3.2).tr (jm_ag.wi rfl)).tr (jm_ag.wi rfl)⟩
      rw [gD_shaft_0, e1, Option.bind_some, jm_ps, gD_shaft_11, jm_cf (fun h9 => h9 rfl), e2.1, e2.2]
    · obtain ⟨σ', g1, g2⟩ := (r_shaft σ (q := aTp A) hr.2.1 h80).2 x hP
      exact ⟨σ', g1, (hr.th 0).no0 g2, (jm_ag.wi rfl).tr (C251_rf g2.2.2.2)⟩
