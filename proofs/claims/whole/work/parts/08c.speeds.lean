-- MATHS: determinants of the class
def bI (b : Bool) : Int32 := cond b 1 0
theorem bI_or (a b : Bool) : bI a ||| bI b = bI (a || b) := by cases a <;> cases b <;> decide
theorem bI_01 (b : Bool) : jm_b01 (bI b) = true := by cases b <;> decide
theorem bI_0 {b : Bool} : bI b = 0 ↔ b = false := by cases b <;> decide
theorem nS1 {i : Nat} (h : 1 ≤ i) : nI i - 1 = nI (i - 1) := pk_sub (a := i) (b := 1) h
theorem nS2 {i : Nat} (h : 2 ≤ i) : nI i - 2 = nI (i - 2) := pk_sub (a := i) (b := 2) h
/-- a product beyond; a difference beyond -/
def mulO (a b : Int64) : Bool := cond (decide (a = -1)) (decide (b = -9223372036854775808)) (cond (decide (a = 0)) false (decide (¬ (a * b) / a = b)))
def subO (a b : Int64) : Bool := decide ((a ^^^ b) &&& (a ^^^ (a - b)) < 0)
def dt (D s : Nat → Int64) : Nat → Int64
  | 0 => 1
  | 1 => D 0 * 1
  | i + 2 => D (i + 1) * dt D s (i + 1) - s i * s i * dt D s i
def ov (D s : Nat → Int64) : Nat → Bool
  | 0 => false
  | 1 => mulO (D 0) 1
  | i + 2 => mulO (D (i + 1)) (dt D s (i + 1)) || mulO (s i) (s i) || mulO (s i * s i) (dt D s i) || subO (D (i + 1) * dt D s (i + 1)) (s i * s i * dt D s i)
def oU (D s : Nat → Int64) : Nat → Bool
  | 0 => false
  | k + 1 => oU D s k || ov D s (k + 1)
abbrev C14 : Nat → Nat → Bool := fun k _ => k == 14
theorem c_times (e : Nat) (σ : jm_S) (a b : Int64) {o : Bool} (ho : σ.1 14 0 6 = bI o) : ∃ σ', jm_call (e + 1) jP_times [jm_R 14 0, jm_L a, jm_L b] σ = some (some (jm_L (a * b)), σ') ∧ σ'.1 14 0 6 = bI (o || mulO a b) ∧ σ'.1 14 0 5 = σ.1 14 0 5 ∧ jm_ag C14 σ σ' := by
  have fin : ∀ p : Bool, mulO a b = p → ∀ pc, jm_ev e (jP_times, pc, [some (jm_R 14 0), some (jm_L a), none, some (jm_L b), none, some (jm_L (a * b)), none], [jm_I (bI p), jm_I (bI o), jm_R 14 0], σ) = cond (jm_b01 (bI o ||| bI p)) (jm_ev e (jP_times, 67, [some (jm_R 14 0), some (jm_L a), none, some (jm_L b), none, some (jm_L (a * b)), none], [], jm_wi σ 14 0 6 (bI o ||| bI p))) none → ∃ σ', jm_ev e (jP_times, pc, [some (jm_R 14 0), some (jm_L a), none, some (jm_L b), none, some (jm_L (a * b)), none], [jm_I (bI p), jm_I (bI o), jm_R 14 0], σ) = some (some (jm_L (a * b)), σ') ∧ σ'.1 14 0 6 = bI (o || mulO a b) ∧ σ'.1 14 0 5 = σ.1 14 0 5 ∧ jm_ag C14 σ σ' := by
    intro p hp pc h
    refine ⟨jm_wi σ 14 0 6 (bI o ||| bI p), ?_, ?_, ?_, jm_ag.wi rfl⟩
    · rw [h, bI_or, bI_01, cond_true, gP_times_67]
    · rw [hp, ← bI_or]; rfl
    · rfl
  rw [gP_times_0, ho]
  simp only [jm_lg_eq]
  by_cases h1 : a = -1
  · rw [jm_cf (fun h9 => h9 h1)]
    by_cases h2 : b = -9223372036854775808
    · rw [jm_cf (fun h9 => h9 h2)]
      exact fin true (by simp [mulO, h1, h2]) 31 (gP_times_31 ..)
    · rw [jm_ct h2]
      exact fin false (by simp [mulO, h1, h2]) 31 (gP_times_31 ..)
  · rw [jm_ct h1]
    by_cases h0 : a = 0
    · rw [jm_ct h0, gP_times_67]
      exact ⟨σ, rfl, by rw [ho]; simp [mulO, h1, h0], rfl, jm_ag.rf⟩
    · rw [jm_cf h0, jm_ct h0]
      by_cases h2 : (a * b) / a = b
      · rw [jm_ct h2]
        exact fin false (by simp [mulO, h1, h0, h2]) 63 (gP_times_63 ..)
      · rw [jm_cf h2]
        exact fin true (by simp [mulO, h1, h0, h2]) 63 (gP_times_63 ..)
theorem c_less (e : Nat) (σ : jm_S) (a b : Int64) {o : Bool} (ho : σ.1 14 0 6 = bI o) : ∃ σ', jm_call (e + 1) jP_less [jm_R 14 0, jm_L a, jm_L b] σ = some (some (jm_L (a - b)), σ') ∧ σ'.1 14 0 6 = bI (o || subO a b) ∧ σ'.1 14 0 5 = σ.1 14 0 5 ∧ jm_ag C14 σ σ' := by
  refine ⟨jm_wi σ 14 0 6 (bI (o || subO a b)), ?_, rfl, rfl, jm_ag.wi rfl⟩
  have hge : (0 ≤ lg_cmp ((a ^^^ b) &&& (a ^^^ (a - b))) 0) ↔ ¬ (a ^^^ b) &&& (a ^^^ (a - b)) < 0 := by
    rw [← jm_lg_lt]
    constructor
    · intro h h9
      rw [jm_te32] at h
      rw [jm_ti32] at h9
      omega
    · intro h
      rw [jm_te32]
      rw [jm_ti32] at h
      omega
  rw [gP_less_0, ho]
  by_cases h : (a ^^^ b) &&& (a ^^^ (a - b)) < 0
  · rw [jm_cf (fun h9 => hge.mp h9 h)]
    have := gP_less_28 e σ (bI true) (bI o) a b (a - b)
    rw [bI_or, bI_01, cond_true] at this
    rw [show subO a b = true by simp [subO, h]]
    exact this
  · rw [jm_ct (hge.mpr h)]
    have := gP_less_28 e σ (bI false) (bI o) a b (a - b)
    rw [bI_or, bI_01, cond_true] at this
    rw [show subO a b = false by simp [subO, h]]
    exact this
/-- what the speeds of the class have been measured at -/
def sP (σ : jm_S) (n : Nat) (w s t : Nat → Int64) : Prop := σ.1 14 0 5 = nI n ∧ ∀ d, d < n → σ.2 15 0 d = w d ∧ σ.2 16 0 d = s d ∧ σ.2 17 0 d = t d
def dgS (w s t : Nat → Int64) (m : Int64) (i : Nat) : Int64 := s i + (if i = 0 then 0 else s (i - 1)) + t i - m * w i
theorem c_diagonal (e : Nat) (σ : jm_S) {n : Nat} {w s t : Nat → Int64} (h : sP σ n w s t) (h6 : n ≤ 6) {i : Nat} (hi : i < n) (m : Int32) : jm_call (e + 1) jP_diagonal [jm_R 14 0, jm_I (nI i), jm_I m] σ = some (some (jm_L (dgS w s t m.toInt64 i)), σ) := by
  have h1 := jm_in_nI (show i < 6 by omega) (by decide)
  have h2 := jm_cl (show i < 2 ^ 31 by omega)
  obtain ⟨a1, a2, a3⟩ := h.2 i hi
  rw [gP_diagonal_0]
  by_cases h0 : i = 0
  · subst h0
    rw [jm_cf (fun h9 => h9 rfl), gP_diagonal_16, h1, h2, a1, a2, a3]
    simp [dgS]
  · have hne : ¬ nI i = 0 := nI_ne0 (by omega) (by omega)
    rw [jm_ct hne, nS1 (by omega), jm_in_nI (show i - 1 < 6 by omega) (by decide), cond_true, jm_cl (by omega), (h.2 (i - 1) (by omega)).2.1, gP_diagonal_16, h1, h2, a1, a2, a3]
    simp [dgS, h0]
theorem oU_of {D s : Nat → Int64} {i : Nat} (h : ov D s i = true) : ∀ {k : Nat}, i ≤ k → oU D s k = true
  | 0, hk => by
    have : i = 0 := by omega
    subst this
    cases h
  | k + 1, hk => by
    by_cases hi : i = k + 1
    · subst hi
      simp [oU, h]
    · simp [oU, oU_of h (show i ≤ k by omega)]
theorem subO_0 (a : Int64) : subO a 0 = false := by
  unfold subO
  rw [show a - 0 = a by simp]
  simp
abbrev C18 : Nat → Nat → Bool := fun k _ => k == 14 || k == 18
theorem sP_ag {σ σ' : jm_S} {n : Nat} {w s t : Nat → Int64} {C : Nat → Nat → Bool} (h : sP σ n w s t) (ha : jm_ag C σ σ') (h5 : σ'.1 14 0 5 = σ.1 14 0 5) (c15 : C 15 0 = false) (c16 : C 16 0 = false) (c17 : C 17 0 = false) : sP σ' n w s t := by
  refine ⟨h5.trans h.1, fun d hd => ?_⟩
  rw [(ha 15 0 c15).2, (ha 16 0 c16).2, (ha 17 0 c17).2]
  exact h.2 d hd
theorem C14_18 {σ σ' : jm_S} (h : jm_ag C14 σ σ') : jm_ag C18 σ σ' := h.mo (fun k r h9 => by simp [C18] at h9; simp [C14, h9.1])
theorem c_reachL (e : Nat) {n : Nat} {w s t : Nat → Int64} (h6 : n ≤ 6) (last : Nat) (hln : last ≤ n) (m : Int32) : ∀ (k i : Nat) (o4 o6 o8 : Option jm_V) (σ : jm_S), sP σ n w s t → σ.1 14 0 6 = 0 → (∀ j, j < i → σ.2 18 0 j = dt (dgS w s t m.toInt64) s j) → 1 ≤ i → i + k = last + 1 → oU (dgS w s t m.toInt64) s (i - 1) = false →
    ∃ σ', jm_ev (e + 1) (jP_reaches, 14, [some (jm_R 14 0), some (jm_I (nI last)), some (jm_I m), some (jm_I (nI i)), o4, none, o6, none, o8, none], [], σ) = some (some (jm_I (bI (!oU (dgS w s t m.toInt64) s last))), σ') ∧ sP σ' n w s t ∧ jm_ag C18 σ σ' ∧ (oU (dgS w s t m.toInt64) s last = false → ∀ j, j ≤ last → σ'.2 18 0 j = dt (dgS w s t m.toInt64) s j)
  | 0, i, o4, o6, o8, σ, hP, h0, hdt, hi1, hik, hoU => by
    have hi : i = last + 1 := by omega
    subst hi
    rw [gP_reaches_14, jm_ct (nI_lt (Nat.lt_succ_self last) (by omega)), gP_reaches_124]
    have hoU : oU (dgS w s t m.toInt64) s last = false := hoU
    refine ⟨σ, by rw [hoU]; rfl, hP, jm_ag.rf, fun _ j hj => hdt j (by omega)⟩
  | k + 1, i, o4, o6, o8, σ, hP, h0, hdt, hi1, hik, hoU => by
    generalize hD : dgS w s t m.toInt64 = D at hdt hoU ⊢
    have hin7 : jm_in3 (nI i) 7 = true := jm_in_nI (by omega) (by decide)
    have hcl : (nI i).toNatClampNeg = i := jm_cl (by omega)
    have key : ∀ (σ2 : jm_S) (l4 l6 : Int64) (o8 : Option jm_V) (o : Bool), sP σ2 n w s t → σ2.1 14 0 6 = bI o → σ2.2 18 0 = σ.2 18 0 → jm_ag C18 σ σ2 → l4 - l6 = dt D s i → (o || subO l4 l6) = ov D s i →
        ∃ σ', jm_ev (e + 1) (jP_reaches, 95, [some (jm_R 14 0), some (jm_I (nI last)), some (jm_I m), some (jm_I (nI i)), some (jm_L l4), none, some (jm_L l6), none, o8, none], [], σ2) = some (some (jm_I (bI (!oU D s last))), σ') ∧ sP σ' n w s t ∧ jm_ag C18 σ σ' ∧ (oU D s last = false → ∀ j, j ≤ last → σ'.2 18 0 j = dt D s j) := by
      intro σ2 l4 l6 o8 o hP2 ho2 hd2 ha2 hv hov
      obtain ⟨σ3, hc, ho3, h53, ha3⟩ := c_less e σ2 l4 l6 ho2
      rw [gP_reaches_95, hc, Option.bind_some, jm_ps, gP_reaches_108, hin7, cond_true, hcl, ho3, hov, hv]
      have hP3 : sP σ3 n w s t := sP_ag hP2 ha3 h53 rfl rfl rfl
      have ha3' : jm_ag C18 σ (jm_wj σ3 18 0 i (dt D s i)) := (ha2.tr (C14_18 ha3)).tr (jm_ag.wj rfl)
      have hP4 : sP (jm_wj σ3 18 0 i (dt D s i)) n w s t := sP_ag (C := C18) hP3 (jm_ag.wj rfl) rfl rfl rfl rfl
      cases hovi : ov D s i with
      | false =>
        rw [jm_ct (show bI false = 0 from rfl), nI_1]
        have hdt' : ∀ j, j < i + 1 → (jm_wj σ3 18 0 i (dt D s i)).2 18 0 j = dt D s j := by
          intro j hj
          rw [jm_wj2, if_pos ⟨rfl, rfl⟩]
          unfold vp_updL
          by_cases hji : j = i
          · rw [if_pos hji, hji]
          · rw [if_neg hji, (ha3 18 0 rfl).2, hd2]
            exact hdt j (by omega)
        have hoU' : oU D s (i + 1 - 1) = false := by
          rw [show i + 1 - 1 = (i - 1) + 1 by omega]
          show (oU D s (i - 1) || ov D s (i - 1 + 1)) = false
          rw [hoU, show i - 1 + 1 = i by omega, hovi]
          rfl
        have h0' : (jm_wj σ3 18 0 i (dt D s i)).1 14 0 6 = 0 := by
          show σ3.1 14 0 6 = 0
          rw [ho3, hov, hovi]
          rfl
        have ih := c_reachL e h6 last hln m k (i + 1) (some (jm_L l4)) (some (jm_L l6)) o8 _ hP4 h0' (by rw [hD]; exact hdt') (by omega) (by omega) (by rw [hD]; exact hoU')
        rw [hD] at ih
        obtain ⟨σ', e1, e2, e3, e4⟩ := ih
        exact ⟨σ', e1, e2, ha3'.tr e3, e4⟩
      | true =>
        rw [jm_cf (show ¬ bI true = 0 by decide)]
        have ht := oU_of hovi (show i ≤ last by omega)
        refine ⟨_, by rw [ht]; rfl, hP4, ha3', fun h9 => by rw [ht] at h9; cases h9⟩
    have hdi : σ.2 18 0 (i - 1) = dt D s (i - 1) := hdt (i - 1) (by omega)
    rw [gP_reaches_14, jm_cf (nI_nlt (show i ≤ last by omega) (by omega)), hP.1, jm_cf (nI_nlt (show i ≤ n by omega) (by omega)), nS1 hi1, c_diagonal e σ hP h6 (show i - 1 < n by omega) m, Option.bind_some, jm_ps, gP_reaches_36, nS1 hi1, jm_in_nI (show i - 1 < 7 by omega) (by decide), cond_true, jm_cl (show i - 1 < 2 ^ 31 by omega), hdi, hD]
    obtain ⟨σ1, hc1, ho1, h51, ha1⟩ := c_times e σ (D (i - 1)) (dt D s (i - 1)) (o := false) h0
    have hP1 : sP σ1 n w s t := sP_ag hP ha1 h51 rfl rfl rfl
    rw [hc1, Option.bind_some, jm_ps, gP_reaches_47]
    by_cases h1 : i = 1
    · subst h1
      rw [jm_ct (show nI 1 ≤ 1 by decide)]
      refine key σ1 _ _ _ _ hP1 ho1 (ha1 18 0 rfl).2 (C14_18 ha1) ?_ ?_
      · show D 0 * 1 - 0 = D 0 * 1
        simp
      · rw [subO_0]
        show (false || mulO (D 0) 1 || false) = mulO (D 0) 1
        simp
    · have hi2 : 2 ≤ i := by omega
      obtain ⟨j, rfl⟩ : ∃ j, i = j + 2 := ⟨i - 2, by omega⟩
      have hs1 : σ1.2 16 0 j = s j := (hP1.2 j (by omega)).2.1
      have hdj : σ.2 18 0 j = dt D s j := hdt j (by omega)
      rw [jm_cf (show ¬ nI (j + 2) ≤ 1 from nI_ge (a := 1) (by omega) (by omega)), nS2 hi2, show j + 2 - 2 = j by omega, jm_in_nI (show j < 6 by omega) (by decide), cond_true, cond_true, jm_cl (show j < 2 ^ 31 by omega), hs1]
      obtain ⟨σ2, hc2, ho2, h52, ha2⟩ := c_times e σ1 (s j) (s j) ho1
      have hP2 : sP σ2 n w s t := sP_ag hP1 ha2 h52 rfl rfl rfl
      rw [hc2, Option.bind_some, jm_ps, gP_reaches_77, nS2 hi2, show j + 2 - 2 = j by omega, jm_in_nI (show j < 7 by omega) (by decide), cond_true, jm_cl (show j < 2 ^ 31 by omega), (ha2 18 0 rfl).2, (ha1 18 0 rfl).2, hdj]
      obtain ⟨σ3, hc3, ho3, h53, ha3⟩ := c_times e σ2 (s j * s j) (dt D s j) ho2
      have hP3 : sP σ3 n w s t := sP_ag hP2 ha3 h53 rfl rfl rfl
      rw [hc3, Option.bind_some, jm_ps, gP_reaches_93]
      refine key σ3 _ _ _ _ hP3 ho3 (((ha3 18 0 rfl).2.trans (ha2 18 0 rfl).2).trans (ha1 18 0 rfl).2) (C14_18 ((ha1.tr ha2).tr ha3)) rfl ?_
      show (false || mulO (D (j + 1)) (dt D s (j + 1)) || mulO (s j) (s j) || mulO (s j * s j) (dt D s j) || _) = ov D s (j + 2)
      simp [ov]
theorem c_reaches (e : Nat) (σ : jm_S) {n : Nat} {w s t : Nat → Int64} (h6 : n ≤ 6) (hP : sP σ n w s t) {last : Nat} (hln : last ≤ n) (m : Int32) :
    ∃ σ', jm_call (e + 2) jP_reaches [jm_R 14 0, jm_I (nI last), jm_I m] σ = some (some (jm_I (bI (!oU (dgS w s t m.toInt64) s last))), σ') ∧ sP σ' n w s t ∧ jm_ag C18 σ σ' ∧ (oU (dgS w s t m.toInt64) s last = false → ∀ j, j ≤ last → σ'.2 18 0 j = dt (dgS w s t m.toInt64) s j) := by
  rw [gP_reaches_0]
  have ha : jm_ag C18 σ (jm_wj (jm_wi σ 14 0 6 0) 18 0 0 1) := jm_ag.tr (jm_ag.wi rfl) (jm_ag.wj rfl)
  obtain ⟨σ', e1, e2, e3, e4⟩ := c_reachL e h6 last hln m last 1 none none none (jm_wj (jm_wi σ 14 0 6 0) 18 0 0 1) (sP_ag hP ha rfl rfl rfl rfl) rfl (fun j hj => by
    have : j = 0 := by omega
    subst this
    rfl) (by omega) (by omega) rfl
  exact ⟨σ', e1, e2, ha.tr e3, e4⟩
