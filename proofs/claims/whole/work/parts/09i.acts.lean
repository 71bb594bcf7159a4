-- THE ACTS: keep, undo
abbrev aShW (A : aS) (S' : sS) (ac : Nat × (Nat → sS)) : aS := (A.1, A.2.1, S', ac, A.2.2.2.2)
abbrev Csh : Nat → Nat → Bool := fun k r => (Nat.ble 10 k && Nat.blt k 20) || (k == 7 && Nat.blt r 2) || (k == 9 && Nat.blt r 8)
abbrev Crh : Nat → Nat → Bool := fun k r => k == 21 || k == 28 || k == 29 || k == 25 || k == 26
theorem cRel.sh {σ σ' : jm_S} {A : aS} {S' : sS} {ac : Nat × (Nat → sS)} (h : cRel σ A) (ha : jm_ag Csh σ σ') (hs : cS σ' 0 S') (hac : cAc (σ'.1 10 0) (σ'.1 11 0) (σ'.1 12 0) (σ'.1 13 0) (aShW A S' ac)) : cRel σ' (aShW A S' ac) := by
  obtain ⟨h1, h2, h3, h4, h5, h6, h7, h8⟩ := h
  have e4 : σ'.1 4 = σ.1 4 := funext fun r => (ha 4 r rfl).1
  refine ⟨?_, ?_, hs, hac, ?_, ?_, ?_, ?_⟩
  · rw [(ha 1 0 rfl).1, (ha 2 0 rfl).1, e4]; exact h1
  · rw [(ha 5 0 rfl).1, (ha 6 0 rfl).1]; exact h2
  · intro k hk
    have h9 := h5 k hk
    have c7k : Csh 7 (2 + k) = false := by
      rcases (show k = 0 ∨ k = 1 by omega) with rfl | rfl <;> rfl
    have c9k : ∀ w, w < 4 → Csh 9 (4 * (2 + k) + w) = false := fun w hw => by
      have : Nat.blt (4 * (2 + k) + w) 8 = false := by
        cases hb : Nat.blt (4 * (2 + k) + w) 8 with
        | false => rfl
        | true => exact absurd (Nat.le_of_ble_eq_true hb) (by omega)
      simp only [Csh, this]
      rfl
    cases hi : aIm A k with
    | none => rw [hi] at h9; show σ'.1 7 (2 + k) 1 = 0; rw [(ha 7 _ c7k).1]; exact h9
    | some T => rw [hi] at h9; exact cS_ag h9 ha c7k c9k
  · rw [(ha 0 0 rfl).1, (ha 20 0 rfl).1]; exact h6
  · rw [(ha 0 0 rfl).1]; exact h7
  · rw [(ha 0 0 rfl).1]; exact h8
theorem rRel.sh {σ σ' : jm_S} {A : aS} {S' : sS} {ac : Nat × (Nat → sS)} (h : rRel σ A) (ha : jm_ag Crh σ σ') (hf : ∀ j, j = 1 ∨ j = 11 ∨ j = 18 ∨ j = 25 → σ'.1 21 0 j = σ.1 21 0 j) (hs : rS (σ'.1 25 0) S') (hac : rAc (σ'.1 21 0) (σ'.1 26 0) (aShW A S' ac)) : rRel σ' (aShW A S' ac) := by
  obtain ⟨h1, h2, h3, h4, h5, h6, h7, h8⟩ := h
  refine ⟨?_, ?_, hs, hac, ?_, ?_, ?_, ?_⟩
  · rw [(ha 22 0 rfl).1, (ha 23 0 rfl).1, (ha 24 0 rfl).1]; exact h1
  · rw [(ha 27 0 rfl).1]; exact ⟨(hf 11 (by simp)).trans h2.1, h2.2⟩
  · rw [(ha 30 0 rfl).1, (ha 31 0 rfl).1]; exact h5
  · rw [(ha 32 0 rfl).1]; exact ⟨(hf 25 (by simp)).trans h6.1, h6.2⟩
  · exact (hf 18 (by simp)).trans h7
  · exact (hf 1 (by simp)).trans h8
theorem Csh_cl {σ σ' : jm_S} (h : jm_ag Csh σ σ') : jm_ag Ccl σ σ' := h.mo (fun k r h9 => by
  have hk : 21 ≤ k := by
    cases hb : Nat.blt k 21 with
    | true => simp only [Ccl, hb] at h9; cases h9
    | false => exact Nat.le_of_not_lt fun q => by rw [show Nat.blt k 21 = true from Nat.ble_eq_true_of_le q] at hb; cases hb
  have h20 : Nat.blt k 20 = false := by
    cases hb : Nat.blt k 20 with
    | false => rfl
    | true => exact absurd (Nat.le_of_ble_eq_true hb) (by omega)
  have : k ≠ 7 ∧ k ≠ 9 := by omega
  simp [Csh, this, h20])
theorem Crh_rf {σ σ' : jm_S} (h : jm_ag Crh σ σ') : jm_ag Crf σ σ' := h.mo (fun k r h9 => by
  have hk : k < 21 := by
    cases hb : Nat.ble 21 k with
    | true => simp only [Crf, hb] at h9; cases h9
    | false => exact Nat.lt_of_not_le fun q => by rw [Nat.ble_eq_true_of_le q] at hb; cases hb
  have : k ≠ 21 ∧ k ≠ 28 ∧ k ≠ 29 ∧ k ≠ 25 ∧ k ≠ 26 := by omega
  simp [Crh, this])
/-- the acts behind one more -/
def acW (A : aS) (S' : sS) : Nat × (Nat → sS) := if (aAc A).1 = 24 then (24, fun i => if i < 24 then (aAc A).2 (i + 1) else S') else ((aAc A).1 + 1, fun i => if i ≤ (aAc A).1 then (aAc A).2 i else S')
theorem okA.act {A : aS} {S' : sS} (hA : okA A) (hS : okS S') (h1 : S'.1 = (aSh A).1) : okA (aShW A S' (acW A S')) := by
  obtain ⟨a1, a2, a3, ⟨a4, a5, a6⟩, a7⟩ := hA
  refine ⟨a1, a2, hS, ?_, a7⟩
  have hall : ∀ i, i ≤ (aAc A).1 → okS ((aAc A).2 i) ∧ ((aAc A).2 i).1 = S'.1 := by
    intro i hi
    by_cases hn : i = (aAc A).1
    · rw [hn, a5]; exact ⟨a3, h1.symm⟩
    · rw [h1]; exact a6 i (by omega)
  show (acW A S').1 ≤ 24 ∧ (acW A S').2 (acW A S').1 = S' ∧ ∀ i, i < (acW A S').1 → okS ((acW A S').2 i) ∧ ((acW A S').2 i).1 = S'.1
  unfold acW
  by_cases h24 : (aAc A).1 = 24
  · rw [if_pos h24]
    refine ⟨Nat.le_refl _, by show (if 24 < 24 then (aAc A).2 (24 + 1) else S') = S'; rw [if_neg (by decide)], fun i hi => ?_⟩
    have hi : i < 24 := hi
    dsimp only
    rw [if_pos hi]
    exact hall _ (by omega)
  · rw [if_neg h24]
    refine ⟨by show (aAc A).1 + 1 ≤ 24; omega, if_neg (by show ¬ (aAc A).1 + 1 ≤ (aAc A).1; omega), fun i hi => ?_⟩
    have hi : i < (aAc A).1 + 1 := hi
    dsimp only
    rw [if_pos (by omega)]
    exact hall _ (by omega)
abbrev Cac : Nat → Nat → Bool := fun k _ => k == 10 || k == 11 || k == 12 || k == 13
theorem Cac_sh {σ σ' : jm_S} (h : jm_ag Cac σ σ') : jm_ag Csh σ σ' := h.mo (fun k r h9 => by
  simp only [Csh, Bool.or_eq_false_iff] at h9
  have h8 := h9.1.1
  have : ¬ (10 ≤ k ∧ k < 20) := fun q => by
    rw [Nat.ble_eq_true_of_le q.1, show Nat.blt k 20 = true from Nat.ble_eq_true_of_le q.2] at h8
    cases h8
  have : k ≠ 10 ∧ k ≠ 11 ∧ k ≠ 12 ∧ k ≠ 13 := by omega
  simp [Cac, this])
theorem c_keep (e : Nat) {σ : jm_S} {A : aS} (hc : cRel σ A) (hA : okA A) {w o b : Int32} {S' : sS} (hu : unR w o b S' (aSh A)) : ∃ σ1, jm_call (e + 2) jA_keep [jm_R 10 0, jm_I w, jm_I o, jm_I b] σ = some (none, σ1) ∧ jm_ag Cac σ σ1 ∧ cAc (σ1.1 10 0) (σ1.1 11 0) (σ1.1 12 0) (σ1.1 13 0) (aShW A S' (acW A S')) := by
  obtain ⟨c1, c2⟩ := hc.2.2.2.1
  have a4 := hA.2.2.2.1.1
  have a5 := hA.2.2.2.1.2.1
  by_cases h24 : (aAc A).1 = 24
  · rw [h24] at c1 a5 c2
    refine ⟨jm_wi (jm_wi (jm_wi (jm_wi (jm_wc (jm_wc (jm_wc (jm_wi σ 10 0 3 23) 11 0 11 0 1 0 23) 12 0 12 0 1 0 23) 13 0 13 0 1 0 23) 11 0 23 w) 12 0 23 o) 13 0 23 b) 10 0 3 24, ?_, ((((((((jm_ag.wi rfl).tr (jm_ag.wc rfl)).tr (jm_ag.wc rfl)).tr (jm_ag.wc rfl)).tr (jm_ag.wi rfl)).tr (jm_ag.wi rfl)).tr (jm_ag.wi rfl)).tr (jm_ag.wi rfl)), ?_⟩
    · rw [gA_keep_0, c1, jm_cf (fun h9 => h9 rfl), gA_forgetOldest_0, Option.bind_some, jm_pn, gA_keep_13]
      rfl
    · show _ = nI (acW A S').1 ∧ ∀ i, i < (acW A S').1 → unR _ _ _ ((acW A S').2 (i + 1)) ((acW A S').2 i)
      unfold acW
      rw [if_pos h24]
      refine ⟨rfl, fun i hi => ?_⟩
      have hi : i < 24 := hi
      show unR (upd (va_cpy (σ.1 11 0) (σ.1 11 0) 1 0 23) 23 w i) (upd (va_cpy (σ.1 12 0) (σ.1 12 0) 1 0 23) 23 o i) (upd (va_cpy (σ.1 13 0) (σ.1 13 0) 1 0 23) 23 b i) (if i + 1 < 24 then (aAc A).2 (i + 1 + 1) else S') (if i < 24 then (aAc A).2 (i + 1) else S')
      rw [if_pos hi]
      by_cases h23 : i = 23
      · subst h23
        rw [pk_us, pk_us, pk_us, if_neg (by decide), a5]
        exact hu
      · rw [pk_un h23, pk_un h23, pk_un h23, if_pos (by omega)]
        unfold va_cpy
        rw [if_pos (by omega), if_pos (by omega), if_pos (by omega), show 1 + (i - 0) = i + 1 by omega]
        exact c2 (i + 1) (by omega)
  · have hlt : (aAc A).1 < 24 := by omega
    have hne : ¬ nI (aAc A).1 = 24 := fun h9 => by
      have := congrArg Int32.toInt h9
      rw [nI_toInt (by omega)] at this
      have h24 : (24 : Int32).toInt = 24 := rfl
      omega
    refine ⟨jm_wi (jm_wi (jm_wi (jm_wi σ 11 0 (aAc A).1 w) 12 0 (aAc A).1 o) 13 0 (aAc A).1 b) 10 0 3 (nI ((aAc A).1 + 1)), ?_, ((((jm_ag.wi rfl).tr (jm_ag.wi rfl)).tr (jm_ag.wi rfl)).tr (jm_ag.wi rfl)), ?_⟩
    · rw [gA_keep_0, c1, jm_ct hne, gA_keep_13, c1, jm_in_nI hlt (by decide), cond_true, cond_true, cond_true, jm_cl (by omega), nI_1]
    · show _ = nI (acW A S').1 ∧ ∀ i, i < (acW A S').1 → unR _ _ _ ((acW A S').2 (i + 1)) ((acW A S').2 i)
      unfold acW
      rw [if_neg h24]
      refine ⟨rfl, fun i hi => ?_⟩
      have hi : i < (aAc A).1 + 1 := hi
      show unR (upd (σ.1 11 0) (aAc A).1 w i) (upd (σ.1 12 0) (aAc A).1 o i) (upd (σ.1 13 0) (aAc A).1 b i) (if i + 1 ≤ (aAc A).1 then (aAc A).2 (i + 1) else S') (if i ≤ (aAc A).1 then (aAc A).2 i else S')
      rw [if_pos (show i ≤ (aAc A).1 by omega)]
      by_cases hn : i = (aAc A).1
      · subst hn
        rw [pk_us, pk_us, pk_us, if_neg (by omega), a5]
        exact hu
      · rw [pk_un hn, pk_un hn, pk_un hn, if_pos (by omega)]
        exact c2 i (by omega)
abbrev C26 : Nat → Nat → Bool := fun k _ => k == 26
theorem r_shL (e : Nat) (σ0 : jm_S) : ∀ (f k : Nat) (σ : jm_S), k + f = 598 → jm_ag C26 σ0 σ → (∀ j, j < k → σ.1 26 0 j = σ0.1 26 0 (j + 26)) → (∀ j, k ≤ j → σ.1 26 0 j = σ0.1 26 0 j) → ∃ σ', jm_ev e (jM_keep, 11, [some (jm_R 21 0), some (jm_I (nI k))], [], σ) = jm_ev e (jM_keep, 49, [some (jm_R 21 0), some (jm_I (nI 598))], [], jm_wi σ' 21 0 9 (σ'.1 21 0 9 - 1)) ∧ jm_ag C26 σ0 σ' ∧ ∀ j, j < 598 → σ'.1 26 0 j = σ0.1 26 0 (j + 26)
  | 0, k, σ, h, ha, h1, h2 => by
    have : k = 598 := by omega
    subst this
    exact ⟨σ, by rw [gM_keep_11, jm_ct (show (598 : Int32) ≤ nI 598 by decide)], ha, h1⟩
  | f + 1, k, σ, h, ha, h1, h2 => by
    obtain ⟨σ', e1, e2⟩ := r_shL e σ0 f (k + 1) (jm_wi σ 26 0 k (σ.1 26 0 (k + 26))) (by omega) (ha.tr (jm_ag.wi rfl)) (fun j hj => by
      rw [jm_w_s]
      by_cases hk : j = k
      · subst hk; rw [pk_us]; exact h2 _ (by omega)
      · rw [pk_un hk]; exact h1 j (by omega)) (fun j hj => by
      rw [jm_w_s, pk_un (by omega)]; exact h2 j (by omega))
    refine ⟨σ', ?_, e2⟩
    rw [gM_keep_11, jm_cf (show ¬ (598 : Int32) ≤ nI k from nI_ge (b := 598) (by omega) (by decide)), show nI k + 26 = nI (k + 26) from nI_add k 26, jm_in_nI (show k + 26 < 624 by omega) (by decide), cond_true, jm_in_nI (show k < 624 by omega) (by decide), cond_true, jm_cl (by omega), jm_cl (by omega), nI_1, e1]
theorem r_cpL (e : Nat) (σ0 : jm_S) {n : Nat} (hn : n < 24) (h9 : σ0.1 21 0 9 = nI n) : ∀ (f k : Nat) (σ : jm_S), k + f = 26 → jm_ag C26 σ0 σ → (∀ j, j < 26 * n → σ.1 26 0 j = σ0.1 26 0 j) → (∀ j, j < k → σ.1 26 0 (26 * n + j) = σ0.1 25 0 j) → ∃ σ', jm_ev e (jM_keep, 51, [some (jm_R 21 0), some (jm_I (nI k))], [], σ) = some (none, jm_wi σ' 21 0 9 (nI (n + 1))) ∧ jm_ag C26 σ0 σ' ∧ (∀ j, j < 26 * n → σ'.1 26 0 j = σ0.1 26 0 j) ∧ ∀ j, j < 26 → σ'.1 26 0 (26 * n + j) = σ0.1 25 0 j
  | 0, k, σ, h, ha, h1, h2 => by
    have : k = 26 := by omega
    subst this
    exact ⟨σ, by rw [gM_keep_51, jm_ct (show (26 : Int32) ≤ nI 26 by decide), (ha 21 0 rfl).1, h9, nI_1], ha, h1, h2⟩
  | f + 1, k, σ, h, ha, h1, h2 => by
    obtain ⟨σ', e1, e2⟩ := r_cpL e σ0 hn h9 f (k + 1) (jm_wi σ 26 0 (26 * n + k) (σ.1 25 0 k)) (by omega) (ha.tr (jm_ag.wi rfl)) (fun j hj => by
      rw [jm_w_s, pk_un (by omega)]; exact h1 j hj) (fun j hj => by
      rw [jm_w_s]
      by_cases hk : j = k
      · subst hk; rw [pk_us, (ha 25 0 rfl).1]
      · rw [pk_un (by omega)]; exact h2 j (by omega))
    refine ⟨σ', ?_, e2⟩
    rw [gM_keep_51, jm_cf (show ¬ (26 : Int32) ≤ nI k from nI_ge (b := 26) (by omega) (by decide)), jm_in_nI (show k < 26 by omega) (by decide), cond_true, (ha 21 0 rfl).1, h9, show (26 : Int32) * nI n + nI k = nI (26 * n + k) from by rw [show (26 : Int32) = nI 26 from rfl, pk_mul, nI_add], jm_in_nI (show 26 * n + k < 624 by omega) (by decide), cond_true, jm_cl (by omega), jm_cl (by omega), nI_1, e1]
theorem rS_cg {R R' : Nat → Int32} {S : sS} (h : rS R S) (h6 : S.1 ≤ 6) (he : ∀ j, j < 26 → R' j = R j) : rS R' S := by
  refine ⟨(he 0 (by omega)).trans h.1, (he 1 (by omega)).trans h.2.1, fun d hd => ?_⟩
  obtain ⟨a, b, c, g⟩ := h.2.2 d hd
  exact ⟨(he _ (by omega)).trans a, (he _ (by omega)).trans b, (he _ (by omega)).trans c, (he _ (by omega)).trans g⟩
theorem r_keep (e : Nat) {σ : jm_S} {A : aS} (hr : rRel σ A) (hA : okA A) (S' : sS) : ∃ σ1, jm_call (e + 1) jM_keep [jm_R 21 0] σ = some (none, σ1) ∧ jm_ag (fun k _ => k == 21 || k == 26) σ σ1 ∧ (∀ j, j ≠ 9 → σ1.1 21 0 j = σ.1 21 0 j) ∧ rAc (σ1.1 21 0) (σ1.1 26 0) (aShW A S' (acW A S')) := by
  obtain ⟨c1, c2⟩ := hr.2.2.2.1
  have a4 := hA.2.2.2.1.1
  have a5 := hA.2.2.2.1.2.1
  have a6 := hA.2.2.2.1.2.2
  have h6 := hA.2.2.1.1
  by_cases h24 : (aAc A).1 = 24
  · rw [h24] at c1 c2 a5 a6
    obtain ⟨σ1, e1, e2, e3⟩ := r_shL e σ 598 0 σ rfl jm_ag.rf (fun j hj => by omega) (fun _ _ => rfl)
    have h21 : σ1.1 21 0 = σ.1 21 0 := (e2 21 0 rfl).1
    obtain ⟨σ2, g1, g2, g3, g4⟩ := r_cpL e (jm_wi σ1 21 0 9 (σ1.1 21 0 9 - 1)) (n := 23) (by decide) (by rw [h21, c1]; rfl) 26 0 (jm_wi σ1 21 0 9 (σ1.1 21 0 9 - 1)) rfl jm_ag.rf (fun _ _ => rfl) (fun j hj => by omega)
    have m26 : ∀ {a b : jm_S}, jm_ag C26 a b → jm_ag (fun k _ => k == 21 || k == 26) a b := fun h => h.mo (fun k r h9 => by simp only [Bool.or_eq_false_iff] at h9; exact h9.2)
    have hk2 : σ2.1 21 0 = upd (σ.1 21 0) 9 (σ1.1 21 0 9 - 1) := by
      rw [(g2 21 0 rfl).1, jm_w_s, h21]
    refine ⟨jm_wi σ2 21 0 9 (nI 24), ?_, (((m26 e2).tr (jm_ag.wi rfl)).tr (m26 g2)).tr (jm_ag.wi rfl), fun j hj => ?_, ?_⟩
    · rw [gM_keep_0, c1, jm_cf (fun h9 => h9 rfl)]
      have e1' : jm_ev e (jM_keep, 11, [some (jm_R 21 0), some (jm_I 0)], [], σ) = _ := e1
      rw [e1', gM_keep_49]
      exact g1
    · rw [jm_w_s, pk_un hj, hk2, pk_un hj]
    · show (jm_wi σ2 21 0 9 (nI 24)).1 21 0 9 = nI (acW A S').1 ∧ ∀ i, i < (acW A S').1 → rS (fun j => σ2.1 26 0 (26 * i + j)) ((acW A S').2 i)
      unfold acW
      rw [if_pos h24]
      refine ⟨by rw [jm_w_s, pk_us], fun i hi => ?_⟩
      have hi : i < 24 := hi
      show rS _ (if i < 24 then (aAc A).2 (i + 1) else S')
      rw [if_pos hi]
      by_cases h23 : i = 23
      · subst h23
        rw [a5]
        refine rS_cg hr.2.2.1 h6 (fun j hj => ?_)
        show σ2.1 26 0 (26 * 23 + j) = _
        rw [g4 j hj]
        show σ1.1 25 0 j = _
        rw [(e2 25 0 rfl).1]
      · refine rS_cg (c2 (i + 1) (by omega)) (by rw [(a6 (i + 1) (by omega)).2]; exact h6) (fun j hj => ?_)
        show σ2.1 26 0 (26 * i + j) = σ.1 26 0 (26 * (i + 1) + j)
        rw [g3 _ (by omega)]
        show σ1.1 26 0 (26 * i + j) = _
        rw [e3 _ (by omega), show 26 * i + j + 26 = 26 * (i + 1) + j by omega]
  · have hlt : (aAc A).1 < 24 := by omega
    have hne : ¬ nI (aAc A).1 = 24 := fun h9 => by
      have := congrArg Int32.toInt h9
      rw [nI_toInt (by omega)] at this
      have h24 : (24 : Int32).toInt = 24 := rfl
      omega
    obtain ⟨σ2, g1, g2, g3, g4⟩ := r_cpL e σ hlt c1 26 0 σ rfl jm_ag.rf (fun _ _ => rfl) (fun j hj => by omega)
    have m26 : ∀ {a b : jm_S}, jm_ag C26 a b → jm_ag (fun k _ => k == 21 || k == 26) a b := fun h => h.mo (fun k r h9 => by simp only [Bool.or_eq_false_iff] at h9; exact h9.2)
    refine ⟨jm_wi σ2 21 0 9 (nI ((aAc A).1 + 1)), ?_, (m26 g2).tr (jm_ag.wi rfl), fun j hj => ?_, ?_⟩
    · rw [gM_keep_0, c1, jm_ct hne, gM_keep_49]
      exact g1
    · rw [jm_w_s, pk_un hj, (g2 21 0 rfl).1]
    · show (jm_wi σ2 21 0 9 (nI ((aAc A).1 + 1))).1 21 0 9 = nI (acW A S').1 ∧ ∀ i, i < (acW A S').1 → rS (fun j => σ2.1 26 0 (26 * i + j)) ((acW A S').2 i)
      unfold acW
      rw [if_neg h24]
      refine ⟨by rw [jm_w_s, pk_us], fun i hi => ?_⟩
      have hi : i < (aAc A).1 + 1 := hi
      show rS _ (if i ≤ (aAc A).1 then (aAc A).2 i else S')
      rw [if_pos (show i ≤ (aAc A).1 by omega)]
      by_cases hn : i = (aAc A).1
      · subst hn
        rw [a5]
        refine rS_cg hr.2.2.1 h6 (fun j hj => ?_)
        exact g4 j hj
      · refine rS_cg (c2 i (by omega)) (by rw [(a6 i (by omega)).2]; exact h6) (fun j hj => ?_)
        exact g3 _ (by omega)
