-- MATHS: how many are below, boxes, of the class
def sg (f : Nat → Int64) : Nat → Nat × Bool
  | 0 => (0, false)
  | i + 1 => (if (if f (i + 1) = 0 then (sg f i).2 else decide (f (i + 1) < 0)) = (sg f i).2 then (sg f i).1 else (sg f i).1 + 1, if f (i + 1) = 0 then (sg f i).2 else decide (f (i + 1) < 0))
theorem sg_le (f : Nat → Int64) : ∀ i, (sg f i).1 ≤ i
  | 0 => Nat.le_refl 0
  | i + 1 => by
    have := sg_le f i
    have h9 : ∀ (c : Prop) [Decidable c] (a : Nat), (if c then a else a + 1) ≤ a + 1 := fun c _ a => by split <;> omega
    unfold sg
    exact Nat.le_trans (h9 _ _) (by omega)
/-- how many are below; none: beyond -/
def blS (n : Nat) (w s t : Nat → Int64) (m : Int32) : Option Nat := if oU (dgS w s t m.toInt64) s n = true then none else some (sg (dt (dgS w s t m.toInt64) s) n).1
def bR (o : Option Nat) : Int32 := match o with
  | none => -1000016
  | some c => nI c
theorem blS_le {n : Nat} {w s t : Nat → Int64} {m : Int32} {c : Nat} (h : blS n w s t m = some c) : c ≤ n := by
  unfold blS at h
  split at h
  · cases h
  · cases h
    exact sg_le _ _
theorem nI_nneg {c : Nat} (h : c < 2 ^ 31) : 0 ≤ (nI c).toInt := by rw [nI_toInt h]; omega
theorem bR_ov {o : Option Nat} (h : ∀ c, o = some c → c < 2 ^ 31) : bR o = -1000016 ↔ o = none := by
  cases o with
  | none => exact ⟨fun _ => rfl, fun _ => rfl⟩
  | some c =>
    constructor
    · intro h9
      have h1 := nI_nneg (h c rfl)
      have h2 : (nI c).toInt = -1000016 := by rw [show nI c = -1000016 from h9]; rfl
      omega
    · intro h9; cases h9
theorem jm_lg_ge {x y : Int64} : 0 ≤ lg_cmp x y ↔ ¬ x < y := by
  rw [← jm_lg_lt, jm_te32, jm_ti32]
  omega
theorem c_belowL (e : Nat) (σ : jm_S) {n : Nat} {f : Nat → Int64} (h6 : n ≤ 6) (m : Int32) (h5 : σ.1 14 0 5 = nI n) (hf : ∀ j, j ≤ n → σ.2 18 0 j = f j) : ∀ (k i : Nat) (o5 o7 : Option jm_V), i + k = n → jm_ev e (jP_belowAt, 22, [some (jm_R 14 0), some (jm_I m), some (jm_I (nI (sg f i).1)), some (jm_I (bI (sg f i).2)), some (jm_I (nI (i + 1))), o5, none, o7], [], σ) = some (some (jm_I (nI (sg f n).1)), σ)
  | 0, i, o5, o7, h => by
    have hi : i = n := by omega
    subst hi
    rw [gP_belowAt_22, h5, jm_ct (nI_lt (Nat.lt_succ_self i) (by omega))]
  | k + 1, i, o5, o7, h => by
    have ih := fun o5 o7 => c_belowL e σ h6 m h5 hf k (i + 1) o5 o7 (by omega)
    rw [gP_belowAt_22, h5, jm_cf (nI_nlt (show i + 1 ≤ n by omega) (by omega)), jm_in_nI (show i + 1 < 7 by omega) (by decide), cond_true, jm_cl (by omega), hf (i + 1) (by omega)]
    have fin : ∀ b : Bool, b = (sg f (i + 1)).2 → ∀ o5 : Int64, jm_ev e (jP_belowAt, 63, [some (jm_R 14 0), some (jm_I m), some (jm_I (nI (sg f i).1)), some (jm_I (bI (sg f i).2)), some (jm_I (nI (i + 1))), some (jm_L o5), none, o7], [jm_I (bI b)], σ) = some (some (jm_I (nI (sg f n).1)), σ) := by
      intro b hb o5
      have h2 : (sg f (i + 1)).1 = if b = (sg f i).2 then (sg f i).1 else (sg f i).1 + 1 := by rw [hb]; rfl
      rw [gP_belowAt_63]
      by_cases hbb : b = (sg f i).2
      · rw [jm_ct (by rw [hbb]), gP_belowAt_74, nI_1]
        have := ih (some (jm_L o5)) (some (jm_I (bI b)))
        rw [h2, if_pos hbb, ← hb] at this
        exact this
      · have hne : ¬ bI b = bI (sg f i).2 := by
          intro h9
          apply hbb
          revert h9
          generalize (sg f i).2 = c
          cases b <;> cases c <;> decide
        rw [jm_cf hne, gP_belowAt_74, nI_1, nI_1]
        have := ih (some (jm_L o5)) (some (jm_I (bI b)))
        rw [h2, if_neg hbb, ← hb] at this
        exact this
    simp only [jm_lg_eq]
    by_cases h0 : f (i + 1) = 0
    · rw [jm_cf (fun h9 => h9 h0)]
      exact fin (sg f i).2 (by simp [sg, h0]) _
    · rw [jm_ct h0]
      by_cases hn : f (i + 1) < 0
      · rw [jm_cf (fun h9 => jm_lg_ge.mp h9 hn)]
        exact fin true (by simp [sg, h0, hn]) _
      · rw [jm_ct (jm_lg_ge.mpr hn)]
        exact fin false (by simp [sg, h0, hn]) _
theorem c_belowAt (e : Nat) (σ : jm_S) {n : Nat} {w s t : Nat → Int64} (h6 : n ≤ 6) (hP : sP σ n w s t) (m : Int32) : ∃ σ', jm_call (e + 3) jP_belowAt [jm_R 14 0, jm_I m] σ = some (some (jm_I (bR (blS n w s t m))), σ') ∧ sP σ' n w s t ∧ jm_ag C18 σ σ' := by
  obtain ⟨σ1, e1, e2, e3, e4⟩ := c_reaches e σ h6 hP (Nat.le_refl n) m
  refine ⟨σ1, ?_, e2, e3⟩
  rw [gP_belowAt_0, hP.1, e1, Option.bind_some, jm_ps, gP_belowAt_9]
  cases ho : oU (dgS w s t m.toInt64) s n with
  | true =>
    rw [jm_cf (fun h9 => h9 rfl)]
    simp [blS, ho, bR]
  | false =>
    rw [jm_ct (by decide)]
    have := c_belowL (e + 2) σ1 h6 m e2.1 (e4 ho) n 0 none none (by omega)
    rw [show blS n w s t m = some (sg (dt (dgS w s t m.toInt64) s) n).1 by simp [blS, ho]]
    exact this
-- boxes
def bis (B : Int32 → Option Nat) (k : Nat) : Nat → Nat → Nat → Option Nat
  | 0, lo, _ => some lo
  | f + 1, lo, hi => if hi ≤ lo + 1 then some lo else match B (nI ((lo + hi) / 2)) with
    | none => none
    | some c => if c ≤ k then bis B k f ((lo + hi) / 2) hi else bis B k f lo ((lo + hi) / 2)
/-- a box; some none: NONE; none: beyond -/
def boxS (B : Int32 → Option Nat) (k : Nat) : Option (Option Nat) := match B 200 with
  | none => none
  | some c => if c ≤ k then some none else (bis B k 200 0 200).map some
def xR (o : Option (Option Nat)) : Int32 := match o with
  | none => -1000016
  | some none => -1000000
  | some (some l) => nI l
theorem c_boxL (e : Nat) {n : Nat} {w s t : Nat → Int64} (h6 : n ≤ 6) (k : Nat) (hk : k < 100) (x2 : Int32) : ∀ (f lo hi : Nat) (o6 o7 : Option jm_V) (σ : jm_S), sP σ n w s t → f ≤ 200 → lo ≤ hi → hi ≤ 200 → ∃ σ', jm_ev (e + 3) (jP_boxOf, 35, [some (jm_R 14 0), some (jm_I (nI k)), some (jm_I x2), some (jm_I (nI lo)), some (jm_I (nI hi)), some (jm_I (nI (200 - f))), o6, o7], [], σ) = some (some (jm_I (xR ((bis (blS n w s t) k f lo hi).map some))), σ') ∧ sP σ' n w s t ∧ jm_ag C18 σ σ'
  | 0, lo, hi, o6, o7, σ, hP, hf, hlh, hh => by
    rw [gP_boxOf_35, jm_ct (show (200 : Int32) ≤ nI (200 - 0) by decide), gP_boxOf_99]
    exact ⟨σ, rfl, hP, jm_ag.rf⟩
  | f + 1, lo, hi, o6, o7, σ, hP, hf, hlh, hh => by
    rw [gP_boxOf_35, jm_cf (show ¬ (200 : Int32) ≤ nI (200 - (f + 1)) from nI_ge (b := 200) (by omega) (by omega)), nI_1]
    by_cases h1 : hi ≤ lo + 1
    · rw [jm_ct (nI_le h1 (by omega)), gP_boxOf_99]
      refine ⟨σ, ?_, hP, jm_ag.rf⟩
      simp [bis, h1, xR]
    · have hdiv : (nI lo + nI hi) / 2 = nI ((lo + hi) / 2) := by
        rw [nI_add]
        exact pk_div (d := 2) (by omega) (by omega) (by omega)
      obtain ⟨σ1, hc, hP1, ha1⟩ := c_belowAt e σ h6 hP (nI ((lo + hi) / 2))
      rw [jm_cf (nI_ge (show lo + 1 < hi by omega) (by omega)), hdiv, hc, Option.bind_some, jm_ps, gP_boxOf_65]
      cases hb : blS n w s t (nI ((lo + hi) / 2)) with
      | none =>
        rw [jm_cf (fun h9 => h9 rfl)]
        refine ⟨σ1, ?_, hP1, ha1⟩
        simp [bis, h1, hb, xR]
      | some c =>
        have hc6 := blS_le hb
        have hno : ¬ bR (some c) = -1000016 := fun h9 => by
          have := (bR_ov (o := some c) (fun c' h => by cases h; omega)).mp h9
          cases this
        rw [jm_ct hno]
        by_cases hck : c ≤ k
        · rw [jm_cf (show ¬ nI k < bR (some c) from nI_nlt hck (by omega)), gP_boxOf_93, nI_1, show 200 - (f + 1) + 1 = 200 - f by omega]
          obtain ⟨σ2, e1, e2, e3⟩ := c_boxL e h6 k hk x2 f ((lo + hi) / 2) hi _ _ σ1 hP1 (by omega) (by omega) hh
          refine ⟨σ2, ?_, e2, ha1.tr e3⟩
          rw [e1]
          simp [bis, h1, hb, hck]
        · rw [jm_ct (show nI k < bR (some c) from nI_lt (by omega) (by omega)), gP_boxOf_93, nI_1, show 200 - (f + 1) + 1 = 200 - f by omega]
          obtain ⟨σ2, e1, e2, e3⟩ := c_boxL e h6 k hk x2 f lo ((lo + hi) / 2) _ _ σ1 hP1 (by omega) (by omega) (by omega)
          refine ⟨σ2, ?_, e2, ha1.tr e3⟩
          rw [e1]
          simp [bis, h1, hb, hck]
theorem c_boxOf (e : Nat) (σ : jm_S) {n : Nat} {w s t : Nat → Int64} (h6 : n ≤ 6) (hP : sP σ n w s t) {k : Nat} (hk : k < 100) : ∃ σ', jm_call (e + 4) jP_boxOf [jm_R 14 0, jm_I (nI k)] σ = some (some (jm_I (xR (boxS (blS n w s t) k))), σ') ∧ sP σ' n w s t ∧ jm_ag C18 σ σ' := by
  obtain ⟨σ1, hc, hP1, ha1⟩ := c_belowAt e σ h6 hP 200
  rw [gP_boxOf_0, hc, Option.bind_some, jm_ps, gP_boxOf_7]
  cases hb : blS n w s t 200 with
  | none =>
    rw [jm_cf (fun h9 => h9 rfl)]
    refine ⟨σ1, ?_, hP1, ha1⟩
    simp [boxS, hb, xR]
  | some c =>
    have hc6 := blS_le hb
    have hno : ¬ bR (some c) = -1000016 := fun h9 => by
      have := (bR_ov (o := some c) (fun c' h => by cases h; omega)).mp h9
      cases this
    rw [jm_ct hno]
    by_cases hck : c ≤ k
    · rw [jm_cf (show ¬ nI k < bR (some c) from nI_nlt hck (by omega))]
      refine ⟨σ1, ?_, hP1, ha1⟩
      simp [boxS, hb, hck, xR]
    · rw [jm_ct (show nI k < bR (some c) from nI_lt (by omega) (by omega))]
      obtain ⟨σ2, e1, e2, e3⟩ := c_boxL e h6 k hk (bR (some c)) 200 0 200 none none σ1 hP1 (by omega) (by omega) (by omega)
      refine ⟨σ2, ?_, e2, ha1.tr e3⟩
      rw [show boxS (blS n w s t) k = (bis (blS n w s t) k 200 0 200).map some by simp [boxS, hb, hck]]
      exact e1
-- measured
abbrev C17 : Nat → Nat → Bool := fun k _ => k == 14 || k == 15 || k == 16 || k == 17
theorem cS_ag {σ σ' : jm_S} {q : Nat} {S : sS} {C : Nat → Nat → Bool} (h : cS σ q S) (ha : jm_ag C σ σ') (c7 : C 7 q = false) (c9 : ∀ w, w < 4 → C 9 (4 * q + w) = false) : cS σ' q S := by
  refine ⟨?_, ?_, fun w hw d hd => ?_⟩
  · rw [(ha 7 q c7).1]; exact h.1
  · rw [(ha 7 q c7).1]; exact h.2.1
  · rw [(ha 9 _ (c9 w hw)).1]; exact h.2.2 w hw d hd
def sw (S : sS) (d : Nat) : Int64 := (weiS S d).toInt64
def ss (S : sS) (d : Nat) : Int64 := (sprS S d).toInt64
def st (S : sS) (d : Nat) : Int64 := (tieS S d).toInt64
theorem c_measL (e : Nat) (q : Nat) {S : sS} (h6 : S.1 ≤ 6) : ∀ (k i : Nat) (σ : jm_S), i + k = S.1 → cS σ q S → σ.1 14 0 5 = nI S.1 → (∀ d, d < i → σ.2 15 0 d = sw S d ∧ σ.2 16 0 d = ss S d ∧ σ.2 17 0 d = st S d) → ∃ σ', jm_ev (e + 2) (jP_measure, 10, [some (jm_R 14 0), some (jm_R 7 q), some (jm_I (nI i))], [], σ) = some (none, σ') ∧ sP σ' S.1 (sw S) (ss S) (st S) ∧ jm_ag C17 σ σ'
  | 0, i, σ, h, hS, h5, hd => by
    have hi : i = S.1 := by omega
    subst hi
    rw [gP_measure_10, h5, jm_ct (nI_le (Nat.le_refl _) (by omega))]
    exact ⟨σ, rfl, ⟨h5, hd⟩, jm_ag.rf⟩
  | k + 1, i, σ, h, hS, h5, hd => by
    have hin := jm_in_nI (show i < 6 by omega) (by decide)
    have hcl := jm_cl (show i < 2 ^ 31 by omega)
    have hi : i < S.1 := by omega
    have hS1 : cS (jm_wj σ 15 0 i (weiS S i).toInt64) q S := hS
    have hS2 : cS (jm_wj (jm_wj σ 15 0 i (weiS S i).toInt64) 16 0 i (sprS S i).toInt64) q S := hS
    rw [gP_measure_10, h5, jm_cf (nI_ge hi (by omega)), c_weightOf e σ q i hS h6 hi, Option.bind_some, jm_ps, gP_measure_28, hin, cond_true, hcl, c_springOf e _ q i hS1 h6 hi, Option.bind_some, jm_ps, gP_measure_40, hin, cond_true, hcl, c_tieOf e _ q i hS2 h6 hi, Option.bind_some, jm_ps, gP_measure_52, hin, cond_true, hcl, nI_1]
    obtain ⟨σ', e1, e2, e3⟩ := c_measL e q h6 k (i + 1) (jm_wj (jm_wj (jm_wj σ 15 0 i (weiS S i).toInt64) 16 0 i (sprS S i).toInt64) 17 0 i (tieS S i).toInt64) (by omega) hS h5 (by
      intro d hdi
      by_cases hdi' : d = i
      · subst hdi'
        refine ⟨?_, ?_, ?_⟩ <;> simp [jm_wj2, vp_updL, sw, ss, st]
      · obtain ⟨a, b, c⟩ := hd d (by omega)
        refine ⟨?_, ?_, ?_⟩ <;> simp [jm_wj2, vp_updL, hdi', a, b, c])
    exact ⟨σ', e1, e2, (((jm_ag.wj rfl).tr (jm_ag.wj rfl)).tr (jm_ag.wj rfl)).tr e3⟩
theorem c_measure (e : Nat) (σ : jm_S) (q : Nat) {S : sS} (h6 : S.1 ≤ 6) (hS : cS σ q S) : ∃ σ', jm_call (e + 3) jP_measure [jm_R 14 0, jm_R 7 q] σ = some (none, σ') ∧ sP σ' S.1 (sw S) (ss S) (st S) ∧ jm_ag C17 σ σ' := by
  rw [gP_measure_0, hS.1]
  obtain ⟨σ', e1, e2, e3⟩ := c_measL e q h6 S.1 0 (jm_wi σ 14 0 5 (nI S.1)) (by omega) hS rfl (fun d hd => absurd hd (Nat.not_lt_zero d))
  exact ⟨σ', e1, e2, (jm_ag.wi rfl).tr e3⟩
