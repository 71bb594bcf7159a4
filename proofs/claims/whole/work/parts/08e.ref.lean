-- MATHS: the shaft, determinants and boxes of the reference
def rS (R : Nat → Int32) (S : sS) : Prop := R 0 = nI S.1 ∧ R 1 = S.2.1 ∧ ∀ d, d < S.1 → R (2 + 4 * d) = S.2.2 3 d ∧ R (2 + 4 * d + 1) = S.2.2 0 d ∧ R (2 + 4 * d + 2) = S.2.2 1 d ∧ R (2 + 4 * d + 3) = S.2.2 2 d
theorem r_ix (d w : Nat) : ((2 : Int32) + ((4 : Int32) * nI d)) + nI w = nI (2 + 4 * d + w) := by
  rw [show (2 : Int32) = nI 2 from rfl, show (4 : Int32) = nI 4 from rfl, pk_mul, nI_add, nI_add]
theorem r_of (e : Nat) (σ : jm_S) (q : Nat) {d w : Nat} (hd : d < 6) (hw : w < 4) : jm_call (e + 1) jM_of [jm_R 25 q, jm_I (nI d), jm_I (nI w)] σ = some (some (jm_I (σ.1 25 q (2 + 4 * d + w))), σ) := by
  rw [gM_of_0, r_ix, jm_in_nI (show 2 + 4 * d + w < 26 by omega) (by decide), cond_true, jm_cl (by omega)]
theorem r_of0 (e : Nat) (σ : jm_S) (q : Nat) {d : Nat} (hd : d < 6) : jm_call (e + 1) jM_of [jm_R 25 q, jm_I (nI d), jm_I 0] σ = some (some (jm_I (σ.1 25 q (2 + 4 * d))), σ) := r_of e σ q hd (w := 0) (by omega)
theorem r_of1 (e : Nat) (σ : jm_S) (q : Nat) {d : Nat} (hd : d < 6) : jm_call (e + 1) jM_of [jm_R 25 q, jm_I (nI d), jm_I 1] σ = some (some (jm_I (σ.1 25 q (2 + 4 * d + 1))), σ) := r_of e σ q hd (w := 1) (by omega)
theorem r_of2 (e : Nat) (σ : jm_S) (q : Nat) {d : Nat} (hd : d < 6) : jm_call (e + 1) jM_of [jm_R 25 q, jm_I (nI d), jm_I 2] σ = some (some (jm_I (σ.1 25 q (2 + 4 * d + 2))), σ) := r_of e σ q hd (w := 2) (by omega)
theorem r_of3 (e : Nat) (σ : jm_S) (q : Nat) {d : Nat} (hd : d < 6) : jm_call (e + 1) jM_of [jm_R 25 q, jm_I (nI d), jm_I 3] σ = some (some (jm_I (σ.1 25 q (2 + 4 * d + 3))), σ) := r_of e σ q hd (w := 3) (by omega)
theorem r_ratioL (e : Nat) (σ : jm_S) (q d : Nat) {S : sS} (hS : rS (σ.1 25 q) S) (h6 : S.1 ≤ 6) (hd : d < S.1) : ∀ (m i : Nat), i + m = d + 1 → jm_ev (e + 1) (jM_ratio, 4, [some (jm_R 25 q), some (jm_I (nI d)), some (jm_I (ratS (S.2.2 3) i)), some (jm_I (nI i))], [], σ) = some (some (jm_I (rtS S d)), σ)
  | 0, i, h => by
    have hi : i = d + 1 := by omega
    subst hi
    rw [gM_ratio_4, jm_ct (nI_lt (Nat.lt_succ_self d) (by omega))]
    rfl
  | m + 1, i, h => by
    have ih := r_ratioL e σ q d hS h6 hd m (i + 1) (by omega)
    rw [gM_ratio_4, jm_cf (nI_nlt (show i ≤ d by omega) (by omega)), r_of0 e σ q (show i < 6 by omega), Option.bind_some, jm_ps, (hS.2.2 i (by omega)).1, gM_ratio_16]
    by_cases hk : S.2.2 3 i = 2
    · rw [jm_cf (fun h9 => h9 hk), gM_ratio_25, nI_1]
      rw [show ratS (S.2.2 3) (i + 1) = ratS (S.2.2 3) i * 2 by simp [ratS, hk]] at ih
      exact ih
    · rw [jm_ct hk, gM_ratio_25, nI_1, Int32.mul_one]
      rw [show ratS (S.2.2 3) (i + 1) = ratS (S.2.2 3) i by simp [ratS, hk]] at ih
      exact ih
theorem r_ratio (e : Nat) (σ : jm_S) (q d : Nat) {S : sS} (hS : rS (σ.1 25 q) S) (h6 : S.1 ≤ 6) (hd : d < S.1) : jm_call (e + 2) jM_ratio [jm_R 25 q, jm_I (nI d)] σ = some (some (jm_I (rtS S d)), σ) := by
  rw [gM_ratio_0]
  exact r_ratioL e σ q d hS h6 hd (d + 1) 0 (by omega)
theorem r_weight (e : Nat) (σ : jm_S) (q d : Nat) {S : sS} (hS : rS (σ.1 25 q) S) (h6 : S.1 ≤ 6) (hd : d < S.1) : jm_call (e + 3) jM_weight [jm_R 25 q, jm_I (nI d)] σ = some (some (jm_I (weiS S d)), σ) := by
  obtain ⟨a0, a1, a2, a3⟩ := hS.2.2 d hd
  rw [gM_weight_0, r_ratio e σ q d hS h6 hd, Option.bind_some, jm_ps, gM_weight_5, r_of1 (e + 1) σ q (by omega), Option.bind_some, jm_ps, gM_weight_12, r_of0 (e + 1) σ q (by omega), Option.bind_some, jm_ps, gM_weight_18, a0, a1]
  by_cases hk : S.2.2 3 d = 3
  · rw [jm_cf (fun h9 => h9 hk), r_of3 (e + 1) σ q (by omega), Option.bind_some, jm_ps, gM_weight_28, gM_weight_32, a3]
    simp [weiS, hk]
  · rw [jm_ct hk, gM_weight_32]
    simp [weiS, hk]
theorem r_spring (e : Nat) (σ : jm_S) (q d : Nat) {S : sS} (hS : rS (σ.1 25 q) S) (h6 : S.1 ≤ 6) (hd : d < S.1) : jm_call (e + 3) jM_spring [jm_R 25 q, jm_I (nI d)] σ = some (some (jm_I (sprS S d)), σ) := by
  obtain ⟨a0, a1, a2, a3⟩ := hS.2.2 d hd
  rw [gM_spring_0, jm_cf (nI_pos (by omega)), nI_1, hS.1]
  by_cases hl : d + 1 = S.1
  · rw [jm_cf (nI_nlt (show S.1 ≤ d + 1 by omega) (by omega)), gM_spring_13]
    simp [sprS, hl]
  · rw [jm_ct (nI_lt (show d + 1 < S.1 by omega) (by omega)), r_ratio e σ q d hS h6 hd, Option.bind_some, jm_ps, gM_spring_20, r_of0 (e + 1) σ q (by omega), Option.bind_some, jm_ps, gM_spring_27, a0, r_of2 (e + 1) σ q (by omega), a2, Option.bind_some, Option.bind_some, jm_ps, jm_ps]
    by_cases hk : S.2.2 3 d = 5
    · rw [jm_cf (fun h9 => h9 hk), gM_spring_37, gM_spring_48]
      simp [sprS, hk, hl]
    · rw [jm_ct hk, gM_spring_48]
      simp [sprS, hk, hl]
theorem r_tie (e : Nat) (σ : jm_S) (q d : Nat) {S : sS} (hS : rS (σ.1 25 q) S) (h6 : S.1 ≤ 6) (hd : d < S.1) (hkd : (S.2.2 3 d).toInt ≤ 5) : jm_call (e + 3) jM_tie [jm_R 25 q, jm_I (nI d)] σ = some (some (jm_I (tieS S d)), σ) := by
  obtain ⟨a0, a1, a2, a3⟩ := hS.2.2 d hd
  rw [gM_tie_0, r_ratio e σ q d hS h6 hd, Option.bind_some, jm_ps, gM_tie_5, r_of0 (e + 1) σ q (by omega), Option.bind_some, jm_ps, gM_tie_12, a0]
  by_cases h4 : S.2.2 3 d < 4
  · rw [jm_ct h4, gM_tie_30]
    have h4 := jm_ti32.mp h4
    have n4 : ¬ S.2.2 3 d = 4 := fun h9 => by rw [h9] at h4; exact absurd h4 (by decide)
    have n5 : ¬ S.2.2 3 d = 5 := fun h9 => by rw [h9] at h4; exact absurd h4 (by decide)
    simp [tieS, n4, n5]
  · rw [jm_cf h4, r_of3 (e + 1) σ q (by omega), a3, Option.bind_some, jm_ps, gM_tie_22, gM_tie_30]
    have h45 : S.2.2 3 d = 4 ∨ S.2.2 3 d = 5 := by
      rw [jm_ti32] at h4
      rw [jm_q32, jm_q32]
      have e4 : (4 : Int32).toInt = 4 := rfl
      have e5 : (5 : Int32).toInt = 5 := rfl
      omega
    simp [tieS, h45]
theorem m1d (b : Int64) : (-1 * b) / -1 = b := by
  rw [← Int64.toInt_inj, Int64.toInt_div, Int64.toInt_mul, show (-1 : Int64).toInt = -1 by decide]
  have hb1 := b.le_toInt
  have hb2 := b.toInt_lt
  by_cases h : b.toInt = -2 ^ 63
  · rw [h]; decide
  · have e1 : (-1 * b.toInt).bmod (2 ^ 64) = -b.toInt := by
      unfold Int.bmod
      dsimp only
      split <;> omega
    rw [e1, Int.tdiv_neg, Int.tdiv_one, Int.neg_neg]
    unfold Int.bmod
    dsimp only
    split <;> omega
abbrev C21 : Nat → Nat → Bool := fun k _ => k == 21
/-- of the reference's own cell only 'over' changes -/
def f19 (σ σ' : jm_S) : Prop := ∀ j, j ≠ 19 → σ'.1 21 0 j = σ.1 21 0 j
theorem f19.tr {a b c : jm_S} (h : f19 a b) (h' : f19 b c) : f19 a c := fun j hj => (h' j hj).trans (h j hj)
theorem f19.rf {a : jm_S} : f19 a a := fun _ _ => rfl
theorem f19.w {σ : jm_S} {x : Int32} : f19 σ (jm_wi σ 21 0 19 x) := fun j hj => by
  rw [jm_wi1, if_pos ⟨rfl, rfl⟩]
  simp [upd, hj]
theorem r_product (e : Nat) (σ : jm_S) (a b : Int64) {o : Bool} (ho : σ.1 21 0 19 = bI o) : ∃ σ', jm_call (e + 1) jM_product [jm_R 21 0, jm_L a, jm_L b] σ = some (some (jm_L (a * b)), σ') ∧ σ'.1 21 0 19 = bI (o || mulO a b) ∧ f19 σ σ' ∧ jm_ag C21 σ σ' := by
  rw [gM_product_0, gM_product_36, gM_product_41, gM_product_41]
  simp only [jm_lg_eq]
  have no : mulO a b = false → ∃ σ', (some (some (jm_L (a * b)), σ) : Option jm_Rs) = some (some (jm_L (a * b)), σ') ∧ σ'.1 21 0 19 = bI (o || mulO a b) ∧ f19 σ σ' ∧ jm_ag C21 σ σ' := fun h => ⟨σ, rfl, by rw [h, Bool.or_false]; exact ho, f19.rf, jm_ag.rf⟩
  have yes : mulO a b = true → ∃ σ', (some (some (jm_L (a * b)), jm_wi σ 21 0 19 1) : Option jm_Rs) = some (some (jm_L (a * b)), σ') ∧ σ'.1 21 0 19 = bI (o || mulO a b) ∧ f19 σ σ' ∧ jm_ag C21 σ σ' := fun h => ⟨_, rfl, by rw [h, Bool.or_true]; rfl, f19.w, jm_ag.wi rfl⟩
  by_cases h0 : a = 0
  · rw [jm_ct h0]
    exact no (by subst h0; rfl)
  · rw [jm_cf h0, jm_ct h0]
    by_cases h1 : a = -1
    · have hm : (a * b) / a = b := by subst h1; exact m1d b
      rw [jm_cf (fun h9 => h9 hm), jm_cf (fun h9 => h9 h1)]
      by_cases h2 : b = -9223372036854775808
      · rw [jm_cf (fun h9 => h9 h2)]
        exact yes (by simp [mulO, h1, h2])
      · rw [jm_ct h2]
        exact no (by simp [mulO, h1, h2])
    · rw [jm_ct h1]
      by_cases h2 : (a * b) / a = b
      · rw [jm_cf (fun h9 => h9 h2)]
        exact no (by simp [mulO, h1, h0, h2])
      · rw [jm_ct h2]
        exact yes (by simp [mulO, h1, h0, h2])
theorem r_difference (e : Nat) (σ : jm_S) (a b : Int64) {o : Bool} (ho : σ.1 21 0 19 = bI o) : ∃ σ', jm_call (e + 1) jM_difference [jm_R 21 0, jm_L a, jm_L b] σ = some (some (jm_L (a - b)), σ') ∧ σ'.1 21 0 19 = bI (o || subO a b) ∧ f19 σ σ' ∧ jm_ag C21 σ σ' := by
  rw [gM_difference_0, gM_difference_23, gM_difference_23]
  by_cases h : (a ^^^ b) &&& (a ^^^ (a - b)) < 0
  · rw [jm_cf (fun h9 => jm_lg_ge.mp h9 h)]
    exact ⟨_, rfl, by rw [show subO a b = true by simp [subO, h], Bool.or_true]; rfl, f19.w, jm_ag.wi rfl⟩
  · rw [jm_ct (jm_lg_ge.mpr h)]
    exact ⟨σ, rfl, by rw [show subO a b = false by simp [subO, h], Bool.or_false]; exact ho, f19.rf, jm_ag.rf⟩
abbrev C28 : Nat → Nat → Bool := fun k _ => k == 21 || k == 28
theorem C21_28 {σ σ' : jm_S} (h : jm_ag C21 σ σ') : jm_ag C28 σ σ' := h.mo (fun k r h9 => by simp [C28] at h9; simp [C21, h9.1])
/-- kinds as told -/
def okK (S : sS) : Prop := S.1 ≤ 6 ∧ ∀ d, d < S.1 → (S.2.2 3 d).toInt ≤ 5
theorem r_reckL (e : Nat) (q : Nat) {S : sS} (hK : okK S) (last : Nat) (hln : last ≤ S.1) (m : Int32) : ∀ (k i : Nat) (o5 o7 o9 o11 : Option jm_V) (σ : jm_S), rS (σ.1 25 q) S → σ.1 21 0 19 = bI (oU (dgS (sw S) (ss S) (st S) m.toInt64) (ss S) (i - 1)) → (oU (dgS (sw S) (ss S) (st S) m.toInt64) (ss S) (i - 1) = false → ∀ j, j < i → σ.2 28 0 j = dt (dgS (sw S) (ss S) (st S) m.toInt64) (ss S) j) → 1 ≤ i → i + k = last + 1 →
    ∃ σ', jm_ev (e + 3) (jM_reckon, 15, [some (jm_R 21 0), some (jm_R 25 q), some (jm_I (nI last)), some (jm_I m), some (jm_I (nI i)), o5, none, o7, none, o9, none, o11, none], [], σ) = some (none, σ') ∧ σ'.1 21 0 19 = bI (oU (dgS (sw S) (ss S) (st S) m.toInt64) (ss S) last) ∧ f19 σ σ' ∧ jm_ag C28 σ σ' ∧ (oU (dgS (sw S) (ss S) (st S) m.toInt64) (ss S) last = false → ∀ j, j ≤ last → σ'.2 28 0 j = dt (dgS (sw S) (ss S) (st S) m.toInt64) (ss S) j)
  | 0, i, o5, o7, o9, o11, σ, hS, h19, hdt, hi1, hik => by
    have hi : i = last + 1 := by omega
    subst hi
    rw [gM_reckon_15, jm_ct (nI_lt (Nat.lt_succ_self last) (by have := hK.1; omega)), gM_reckon_154]
    exact ⟨σ, rfl, h19, f19.rf, jm_ag.rf, fun h j hj => hdt h j (by omega)⟩
  | k + 1, i, o5, o7, o9, o11, σ, hS, h19, hdt, hi1, hik => by
    have h6 := hK.1
    generalize hD : dgS (sw S) (ss S) (st S) m.toInt64 = D at h19 hdt ⊢
    rw [gM_reckon_15, jm_cf (nI_nlt (show i ≤ last by omega) (by omega))]
    cases hoU : oU D (ss S) (i - 1) with
    | true =>
      rw [h19, hoU, jm_ct (show ¬ bI true = 0 by decide), gM_reckon_154]
      have ht : ∀ k, i - 1 ≤ k → oU D (ss S) k = true := by
        intro k hk
        induction hk with
        | refl => exact hoU
        | step _ ih => simp [oU, ih]
      exact ⟨σ, rfl, by rw [h19, hoU, ht last (by omega)], f19.rf, jm_ag.rf, fun h9 => by rw [ht last (by omega)] at h9; cases h9⟩
    | false =>
      have hdt := hdt hoU
      rw [hoU] at h19
      have hin7 : jm_in3 (nI i) 7 = true := jm_in_nI (by omega) (by decide)
      have hcl : (nI i).toNatClampNeg = i := jm_cl (by omega)
      have key : ∀ (σ2 : jm_S) (l5 l7 : Int64) (o9 o11 : Option jm_V), σ2.1 21 0 19 = bI (ov D (ss S) i) → f19 σ σ2 → jm_ag C21 σ σ2 → l7 = dt D (ss S) i →
          ∃ σ', jm_ev (e + 3) (jM_reckon, 139, [some (jm_R 21 0), some (jm_R 25 q), some (jm_I (nI last)), some (jm_I m), some (jm_I (nI i)), some (jm_L l5), none, some (jm_L l7), none, o9, none, o11, none], [], σ2) = some (none, σ') ∧ σ'.1 21 0 19 = bI (oU D (ss S) last) ∧ f19 σ σ' ∧ jm_ag C28 σ σ' ∧ (oU D (ss S) last = false → ∀ j, j ≤ last → σ'.2 28 0 j = dt D (ss S) j) := by
        intro σ2 l5 l7 o9 o11 ho2 hf2 ha2 hv
        rw [gM_reckon_139, hin7, cond_true, hcl, nI_1, hv]
        have hoi : oU D (ss S) (i + 1 - 1) = ov D (ss S) i := by
          rw [show i + 1 - 1 = (i - 1) + 1 by omega]
          show (oU D (ss S) (i - 1) || ov D (ss S) (i - 1 + 1)) = _
          rw [hoU, show i - 1 + 1 = i by omega, Bool.false_or]
        have ih := r_reckL e q hK last hln m k (i + 1) (some (jm_L l5)) (some (jm_L (dt D (ss S) i))) o9 o11 (jm_wj σ2 28 0 i (dt D (ss S) i)) (by show rS (σ2.1 25 q) S; rw [(ha2 25 q rfl).1]; exact hS) (by rw [hD, hoi]; exact ho2) (by
          rw [hD]
          intro _ j hj
          rw [jm_wj2, if_pos ⟨rfl, rfl⟩]
          unfold vp_updL
          by_cases hji : j = i
          · rw [if_pos hji, hji]
          · rw [if_neg hji, (ha2 28 0 rfl).2]
            exact hdt j (by omega)) (by omega) (by omega)
        rw [hD] at ih
        obtain ⟨σ', e1, e2, e3, e4, e5⟩ := ih
        exact ⟨σ', e1, e2, hf2.tr e3, ((C21_28 ha2).tr (jm_ag.wj rfl)).tr e4, e5⟩
      rw [h19, jm_cf (fun h9 => h9 rfl), nS1 hi1, r_spring e σ q (i - 1) hS h6 (by omega), Option.bind_some, jm_ps, gM_reckon_36]
      have hsp2 : ∃ z, jm_call (e + 3) jM_spring [jm_R 25 q, jm_I (nI i - 2)] σ = some (some (jm_I z), σ) ∧ z.toInt64 = (if i - 1 = 0 then 0 else ss S (i - 1 - 1)) := by
        by_cases h1 : i = 1
        · subst h1
          refine ⟨0, ?_, rfl⟩
          rw [gM_spring_0, jm_ct (show nI 1 - 2 < 0 by decide), gM_spring_13]
        · refine ⟨sprS S (i - 2), ?_, ?_⟩
          · rw [nS2 (by omega), r_spring e σ q (i - 2) hS h6 (by omega)]
          · rw [if_neg (by omega)]
            rfl
      obtain ⟨z, hz1, hz2⟩ := hsp2
      have hdv : (ss S (i - 1) + (if i - 1 = 0 then 0 else ss S (i - 1 - 1)) + st S (i - 1)) - m.toInt64 * sw S (i - 1) = D (i - 1) := by rw [← hD]; rfl
      rw [hz1, Option.bind_some, jm_ps, gM_reckon_45, nS1 hi1, r_tie e σ q (i - 1) hS h6 (by omega) (hK.2 _ (by omega)), Option.bind_some, jm_ps, gM_reckon_55, nS1 hi1, r_weight e σ q (i - 1) hS h6 (by omega), Option.bind_some, jm_ps, gM_reckon_67, nS1 hi1, jm_in_nI (show i - 1 < 7 by omega) (by decide), cond_true, jm_cl (show i - 1 < 2 ^ 31 by omega), hz2, hdt (i - 1) (by omega),
        show (sprS S (i - 1)).toInt64 = ss S (i - 1) from rfl, show (tieS S (i - 1)).toInt64 = st S (i - 1) from rfl, show (weiS S (i - 1)).toInt64 = sw S (i - 1) from rfl, hdv]
      obtain ⟨σ1, hc1, ho1, hf1, ha1⟩ := r_product (e + 2) σ (D (i - 1)) (dt D (ss S) (i - 1)) (o := false) h19
      have hS1 : rS (σ1.1 25 q) S := by rw [(ha1 25 q rfl).1]; exact hS
      rw [hc1, Option.bind_some, jm_ps, gM_reckon_87]
      by_cases h1 : i = 1
      · subst h1
        rw [jm_ct (show nI 1 ≤ 1 by decide)]
        exact key σ1 _ _ _ _ (by rw [ho1]; rfl) hf1 ha1 rfl
      · obtain ⟨j, rfl⟩ : ∃ j, i = j + 2 := ⟨i - 2, by omega⟩
        rw [jm_cf (show ¬ nI (j + 2) ≤ 1 from nI_ge (a := 1) (by omega) (by omega)), nS2 (by omega), show j + 2 - 2 = j by omega, r_spring e σ1 q j hS1 h6 (by omega), Option.bind_some, jm_ps, gM_reckon_103, show (sprS S j).toInt64 = ss S j from rfl]
        obtain ⟨σ2, hc2, ho2, hf2, ha2⟩ := r_product (e + 2) σ1 (ss S j) (ss S j) ho1
        rw [hc2, Option.bind_some, jm_ps, gM_reckon_114, nS2 (by omega), show j + 2 - 2 = j by omega, jm_in_nI (show j < 7 by omega) (by decide), cond_true, jm_cl (show j < 2 ^ 31 by omega), (ha2 28 0 rfl).2, (ha1 28 0 rfl).2, hdt j (by omega)]
        obtain ⟨σ3, hc3, ho3, hf3, ha3⟩ := r_product (e + 2) σ2 (ss S j * ss S j) (dt D (ss S) j) ho2
        rw [hc3, Option.bind_some, jm_ps, gM_reckon_134]
        obtain ⟨σ4, hc4, ho4, hf4, ha4⟩ := r_difference (e + 2) σ3 (D (j + 2 - 1) * dt D (ss S) (j + 2 - 1)) (ss S j * ss S j * dt D (ss S) j) ho3
        rw [hc4, Option.bind_some, jm_ps, gM_reckon_137]
        refine key σ4 _ _ _ _ ?_ (((hf1.tr hf2).tr hf3).tr hf4) (((ha1.tr ha2).tr ha3).tr ha4) rfl
        rw [ho4]
        show bI (false || mulO (D (j + 1)) (dt D (ss S) (j + 1)) || mulO (ss S j) (ss S j) || mulO (ss S j * ss S j) (dt D (ss S) j) || _) = bI (ov D (ss S) (j + 2))
        simp [ov]
theorem r_reckon (e : Nat) (σ : jm_S) (q : Nat) {S : sS} (hK : okK S) (hS : rS (σ.1 25 q) S) {last : Nat} (hln : last ≤ S.1) (m : Int32) :
    ∃ σ', jm_call (e + 4) jM_reckon [jm_R 21 0, jm_R 25 q, jm_I (nI last), jm_I m] σ = some (none, σ') ∧ σ'.1 21 0 19 = bI (oU (dgS (sw S) (ss S) (st S) m.toInt64) (ss S) last) ∧ f19 σ σ' ∧ jm_ag C28 σ σ' ∧ (oU (dgS (sw S) (ss S) (st S) m.toInt64) (ss S) last = false → ∀ j, j ≤ last → σ'.2 28 0 j = dt (dgS (sw S) (ss S) (st S) m.toInt64) (ss S) j) := by
  rw [gM_reckon_0]
  obtain ⟨σ', e1, e2, e3, e4, e5⟩ := r_reckL e q hK last hln m last 1 none none none none (jm_wj (jm_wi σ 21 0 19 0) 28 0 0 1) hS rfl (fun _ j hj => by
    have : j = 0 := by omega
    subst this
    rfl) (by omega) (by omega)
  exact ⟨σ', e1, e2, (f19.w (σ := σ) (x := 0)).tr e3, ((jm_ag.wi rfl).tr (jm_ag.wj rfl)).tr e4, e5⟩
