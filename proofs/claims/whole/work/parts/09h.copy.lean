-- METHODS: copy
/-- the items behind a copy -/
def itC (A : aS) (r1 r3 a b n : Nat) : Nat → Nat → Int32 := fun r i => if r = r3 then va_cpy (aIt A r1) (aIt A r3) a b n i else aIt A r i
/-- t items moved, from the front or from the back -/
def mvd (fw : Bool) (b n t j : Nat) : Bool := cond fw (decide (b ≤ j ∧ j < b + t)) (decide (b + n - t ≤ j ∧ j < b + n))
theorem r_copyL (σ0 : jm_S) {r1 r3 a b n : Nat} (h1 : r1 < 8) (h3 : r3 < 8) (ha : a + n ≤ 40) (hb : b + n ≤ 40) (fw : Bool) (hfw : fw = decide (¬ a < b)) : ∀ (f t : Nat) (σ : jm_S) (o8 : Option jm_V), t + f = n → jm_ag C24 σ0 σ → σ.1 22 = σ0.1 22 → σ.1 23 = σ0.1 23 → (∀ r i, r < 8 → i < 40 → σ.1 24 0 (40 * r + i) = if r = r3 ∧ mvd fw b n t i = true then σ0.1 24 0 (40 * r1 + a + (i - b)) else σ0.1 24 0 (40 * r + i)) → ∃ σ', jm_ev 59 (jM_copy, 143, [some (jm_R 21 0), some (jm_I (nI r1)), some (jm_I (nI a)), some (jm_I (nI r3)), some (jm_I (nI b)), some (jm_I (nI n)), some (jm_I (bI fw)), some (jm_I (nI t)), o8], [], σ) = some (some (jm_I (nI n)), σ') ∧ jm_ag C24 σ0 σ' ∧ σ'.1 22 = σ0.1 22 ∧ σ'.1 23 = σ0.1 23 ∧ (∀ r i, r < 8 → i < 40 → σ'.1 24 0 (40 * r + i) = if r = r3 ∧ (b ≤ i ∧ i < b + n) then σ0.1 24 0 (40 * r1 + a + (i - b)) else σ0.1 24 0 (40 * r + i))
  | 0, t, σ, o8, h, hag, h22, h23, hit => by
    have : t = n := by omega
    subst this
    refine ⟨σ, by rw [gM_copy_143, jm_ct (nI_le (Nat.le_refl _) (by omega))], hag, h22, h23, fun r i hr hi => ?_⟩
    rw [hit r i hr hi]
    have hm : mvd fw b t t i = true ↔ (b ≤ i ∧ i < b + t) := by
      cases fw with
      | true => simp [mvd]
      | false => simp [mvd]
    simp only [hm]
  | f + 1, t, σ, o8, h, hag, h22, h23, hit => by
    -- the place this round moves
    obtain ⟨p, hp, hpn⟩ : ∃ p, p = cond fw t (n - 1 - t) ∧ p < n := ⟨_, rfl, by cases fw <;> simp <;> omega⟩
    have hst : jm_ev 59 (jM_copy, 143, [some (jm_R 21 0), some (jm_I (nI r1)), some (jm_I (nI a)), some (jm_I (nI r3)), some (jm_I (nI b)), some (jm_I (nI n)), some (jm_I (bI fw)), some (jm_I (nI t)), o8], [], σ) = jm_ev 59 (jM_copy, 167, [some (jm_R 21 0), some (jm_I (nI r1)), some (jm_I (nI a)), some (jm_I (nI r3)), some (jm_I (nI b)), some (jm_I (nI n)), some (jm_I (bI fw)), some (jm_I (nI t)), o8], [jm_I (nI p)], σ) := by
      rw [gM_copy_143, jm_cf (nI_ge (show t < n by omega) (by omega))]
      cases fw with
      | true =>
        rw [jm_cf (show ¬ bI true = 0 by decide), hp]
        rfl
      | false =>
        rw [jm_ct (show bI false = 0 from rfl), nS1 (by omega), pk_sub (by omega), hp]
        rfl
    have hs : (40 : Int32) * nI r1 + nI a + nI p = nI (40 * r1 + (a + p)) := by rw [show (40 : Int32) = nI 40 from rfl, pk_mul, nI_add, nI_add, Nat.add_assoc]
    have hd : (40 : Int32) * nI r3 + nI b + nI p = nI (40 * r3 + (b + p)) := by rw [show (40 : Int32) = nI 40 from rfl, pk_mul, nI_add, nI_add, Nat.add_assoc]
    have hsrc : σ.1 24 0 (40 * r1 + (a + p)) = σ0.1 24 0 (40 * r1 + (a + p)) := by
      rw [hit r1 (a + p) h1 (by omega), if_neg]
      rintro ⟨hrr, hm⟩
      cases fw with
      | true =>
        have hab : ¬ a < b := by simpa using hfw.symm
        simp [mvd] at hm
        simp at hp
        omega
      | false =>
        have hab : a < b := by simpa using hfw.symm
        simp [mvd] at hm
        simp at hp
        omega
    obtain ⟨σ', e1, e2⟩ := r_copyL σ0 h1 h3 ha hb fw hfw f (t + 1) (jm_wi σ 24 0 (40 * r3 + (b + p)) (σ0.1 24 0 (40 * r1 + (a + p)))) (some (jm_I (nI p))) (by omega) (hag.tr (jm_ag.wi rfl)) h22 h23 (fun r i hr hi => by
      rw [jm_w_s]
      by_cases hij : 40 * r + i = 40 * r3 + (b + p)
      · have hrr : r = r3 := by omega
        have hii : i = b + p := by omega
        rw [hij, pk_us, if_pos]
        · rw [show 40 * r1 + a + (i - b) = 40 * r1 + (a + p) by omega]
        · refine ⟨hrr, ?_⟩
          cases fw with
          | true => simp at hp; simp [mvd]; omega
          | false => simp at hp; simp [mvd]; omega
      · rw [pk_un hij, hit r i hr hi]
        by_cases hrr : r = r3
        · have hii : i ≠ b + p := by omega
          have hm : mvd fw b n (t + 1) i = mvd fw b n t i := by
            cases fw with
            | true => simp at hp; simp only [mvd, cond_true, decide_eq_decide]; omega
            | false => simp at hp; simp only [mvd, cond_false, decide_eq_decide]; omega
          rw [hm]
        · rw [if_neg (fun h9 => hrr h9.1), if_neg (fun h9 => hrr h9.1)])
    refine ⟨σ', ?_, e2⟩
    rw [hst, gM_copy_167, hs, hd, jm_in_nI (show 40 * r1 + (a + p) < 320 by omega) (by decide), cond_true, jm_in_nI (show 40 * r3 + (b + p) < 320 by omega) (by decide), cond_true, jm_cl (by omega), jm_cl (by omega), hsrc, nI_1, e1]
theorem jm_add64 {x y : Int32} : (x.toInt64 + y.toInt64).toInt = x.toInt + y.toInt := by
  rw [Int64.toInt_add, jm_i64, jm_i64]
  have h1 := x.toInt_lt
  have h2 := y.toInt_lt
  have h3 := x.le_toInt
  have h4 := y.le_toInt
  unfold Int.bmod
  dsimp only
  split <;> omega
theorem lane_eq {A : aS} (hA : okA A) {r1 r3 : Nat} (h1 : r1 < 8) (h3 : r3 < 8) {q1 q3 : Nat × Nat} (e1 : aRw A r1 = some q1) (e3 : aRw A r3 = some q3) : nI q1.1 = nI q3.1 ↔ q1.1 = q3.1 := by
  have a1 := (hA.1 r1 h1 q1 e1).1
  have a3 := (hA.1 r3 h3 q3 e3).1
  constructor
  · intro h
    have := congrArg Int32.toInt h
    rw [nI_toInt (by omega), nI_toInt (by omega)] at this
    omega
  · intro h; rw [h]
theorem P_copy {A : aS} (hA : okA A) (x1 x2 x3 x4 x5 : Int32) : Pair A jD_copy jM_copy [jm_I x1, jm_I x2, jm_I x3, jm_I x4, jm_I x5] := by
  by_cases hx1 : 0 ≤ x1.toInt ∧ x1.toInt < 8
  case neg =>
    refine ⟨jm_I (-1000001), A, hA, fun σ hc => ⟨σ, ?_, hc, jm_ag.rf⟩, fun σ hr => ⟨jm_wi σ 21 0 0 0, ?_, hr.th 0, jm_ag.wi rfl⟩⟩
    · rw [gD_copy_0, c_isRow, if_neg hx1, Option.bind_some, jm_ps, gD_copy_4, jm_ct rfl, gD_copy_14]
    · rw [gM_copy_0, r_isRow, if_neg hx1, Option.bind_some, jm_ps, gM_copy_9, jm_ct rfl, gM_copy_19]
  by_cases hx3 : 0 ≤ x3.toInt ∧ x3.toInt < 8
  case neg =>
    refine ⟨jm_I (-1000001), A, hA, fun σ hc => ⟨σ, ?_, hc, jm_ag.rf⟩, fun σ hr => ⟨jm_wi σ 21 0 0 0, ?_, hr.th 0, jm_ag.wi rfl⟩⟩
    · rw [gD_copy_0, c_isRow, if_pos hx1, Option.bind_some, jm_ps, gD_copy_4, jm_cf (by decide), c_isRow, if_neg hx3, Option.bind_some, jm_ps, gD_copy_11, jm_cf (fun h9 => h9 rfl), gD_copy_14]
    · rw [gM_copy_0, r_isRow, if_pos hx1, Option.bind_some, jm_ps, gM_copy_9, jm_cf (by decide), r_isRow, if_neg hx3, Option.bind_some, jm_ps, gM_copy_16, jm_cf (fun h9 => h9 rfl), gM_copy_19]
  obtain ⟨r1, h1, rfl⟩ := jm_nI_of (x := x1) (n := 8) hx1.1 hx1.2
  obtain ⟨r3, h3, rfl⟩ := jm_nI_of (x := x3) (n := 8) hx3.1 hx3.2
  have hin1 : jm_in3 (nI r1) 8 = true := jm_in_nI h1 (by decide)
  have hin3 : jm_in3 (nI r3) 8 = true := jm_in_nI h3 (by decide)
  have hcl1 : (nI r1).toNatClampNeg = r1 := jm_cl (by omega)
  have hcl3 : (nI r3).toNatClampNeg = r3 := jm_cl (by omega)
  cases hq1 : aRw A r1 with
  | none =>
    refine ⟨jm_I (-1000010 - 1), aFdW A 1, hA.fd _, fun σ hc => ⟨jm_wi σ 0 0 13 1, ?_, hc.fd 1, jm_ag.wi rfl⟩, fun σ hr => ⟨jm_wi (jm_wi (jm_wi σ 21 0 0 0) 21 0 1 0) 21 0 1 1, ?_, ((hr.th 0).fd 0).fd 1, ((jm_ag.wi rfl).tr (jm_ag.wi rfl)).tr (jm_ag.wi rfl)⟩⟩
    · rw [gD_copy_0, c_isRow, if_pos hx1, Option.bind_some, jm_ps, gD_copy_4, jm_cf (by decide), c_isRow, if_pos hx3, Option.bind_some, jm_ps, gD_copy_11, jm_ct (by decide), c_isMissing 58 hc hA h1, hq1, Option.bind_some, jm_ps, gD_copy_22, jm_ct (by decide), gD_copy_33, gD_found_0, Option.bind_some, jm_ps, gD_copy_38]
    · have e1 := (hr.1 r1 h1).1
      rw [hq1] at e1
      have e2 : (jm_wi σ 21 0 0 0).1 22 0 r1 = -1 := e1
      rw [gM_copy_0, r_isRow, if_pos hx1, Option.bind_some, jm_ps, gM_copy_9, jm_cf (by decide), r_isRow, if_pos hx3, Option.bind_some, jm_ps, gM_copy_16, jm_ct (by decide), hin1, cond_true, hcl1, e2, jm_ct (by decide), gM_copy_45, gM_finding_0, Option.bind_some, jm_ps, gM_copy_50]
  | some q1 =>
  have hq1b := hA.1 r1 h1 q1 hq1
  cases hq3 : aRw A r3 with
  | none =>
    refine ⟨jm_I (-1000010 - 1), aFdW A 1, hA.fd _, fun σ hc => ⟨jm_wi σ 0 0 13 1, ?_, hc.fd 1, jm_ag.wi rfl⟩, fun σ hr => ⟨jm_wi (jm_wi (jm_wi σ 21 0 0 0) 21 0 1 0) 21 0 1 1, ?_, ((hr.th 0).fd 0).fd 1, ((jm_ag.wi rfl).tr (jm_ag.wi rfl)).tr (jm_ag.wi rfl)⟩⟩
    · rw [gD_copy_0, c_isRow, if_pos hx1, Option.bind_some, jm_ps, gD_copy_4, jm_cf (by decide), c_isRow, if_pos hx3, Option.bind_some, jm_ps, gD_copy_11, jm_ct (by decide), c_isMissing 58 hc hA h1, hq1, Option.bind_some, jm_ps, gD_copy_22, jm_cf (fun h9 => h9 rfl), c_isMissing 58 hc hA h3, hq3, Option.bind_some, jm_ps, gD_copy_30, jm_cf (by decide), gD_copy_33, gD_found_0, Option.bind_some, jm_ps, gD_copy_38]
    · have e1 := (hr.1 r1 h1).1
      rw [hq1] at e1
      have e2 : (jm_wi σ 21 0 0 0).1 22 0 r1 = nI q1.1 := e1.2
      have e3 := (hr.1 r3 h3).1
      rw [hq3] at e3
      have e4 : (jm_wi σ 21 0 0 0).1 22 0 r3 = -1 := e3
      rw [gM_copy_0, r_isRow, if_pos hx1, Option.bind_some, jm_ps, gM_copy_9, jm_cf (by decide), r_isRow, if_pos hx3, Option.bind_some, jm_ps, gM_copy_16, jm_ct (by decide), hin1, cond_true, hcl1, e2, jm_cf (nI_pos (by omega)), hin3, cond_true, hcl3, e4, jm_cf (by decide), gM_copy_45, gM_finding_0, Option.bind_some, jm_ps, gM_copy_50]
  | some q3 =>
  have hq3b := hA.1 r3 h3 q3 hq3
  -- both stand
  have hcS : ∀ σ, cRel σ A → jm_call 60 jD_copy [jm_R 0 0, jm_I (nI r1), jm_I x2, jm_I (nI r3), jm_I x4, jm_I x5] σ = cond (decide (q1.1 = q3.1)) ((jm_call 59 jD_isWithin [jm_R 0 0, jm_I (nI r1), jm_I x2, jm_I x5] σ).bind fun q => jm_ev 59 (jm_psh (jD_copy, 68, [some (jm_R 0 0), some (jm_I (nI r1)), some (jm_I x2), some (jm_I (nI r3)), some (jm_I x4), some (jm_I x5)], [], σ) q)) ((jm_call 59 jD_found [jm_R 0 0, jm_I 5] σ).bind fun q => jm_ev 59 (jm_psh (jD_copy, 59, [some (jm_R 0 0), some (jm_I (nI r1)), some (jm_I x2), some (jm_I (nI r3)), some (jm_I x4), some (jm_I x5)], [], σ) q)) := by
    intro σ hc
    have e1 := (hc.1 r1 h1).1
    rw [hq1] at e1
    have e3 := (hc.1 r3 h3).1
    rw [hq3] at e3
    rw [gD_copy_0, c_isRow, if_pos hx1, Option.bind_some, jm_ps, gD_copy_4, jm_cf (by decide), c_isRow, if_pos hx3, Option.bind_some, jm_ps, gD_copy_11, jm_ct (by decide), c_isMissing 58 hc hA h1, hq1, Option.bind_some, jm_ps, gD_copy_22, jm_cf (fun h9 => h9 rfl), c_isMissing 58 hc hA h3, hq3, Option.bind_some, jm_ps, gD_copy_30, jm_ct (show bI (some q3).isNone = 0 from rfl), hin1, cond_true, hin3, cond_true, hcl1, hcl3, e1.2, e3.2]
    by_cases hl : q1.1 = q3.1
    · rw [jm_ct ((lane_eq hA h1 h3 hq1 hq3).mpr hl), jm_ct hl]
    · rw [jm_cf (fun h9 => hl ((lane_eq hA h1 h3 hq1 hq3).mp h9)), jm_cf hl]
  by_cases hl : q1.1 = q3.1
  case neg =>
    refine ⟨jm_I (-1000010 - 5), aFdW A 5, hA.fd _, fun σ hc => ⟨jm_wi σ 0 0 13 5, ?_, hc.fd 5, jm_ag.wi rfl⟩, fun σ hr => ⟨jm_wi (jm_wi (jm_wi σ 21 0 0 0) 21 0 1 0) 21 0 1 5, ?_, ((hr.th 0).fd 0).fd 5, ((jm_ag.wi rfl).tr (jm_ag.wi rfl)).tr (jm_ag.wi rfl)⟩⟩
    · rw [hcS σ hc, jm_cf hl, gD_found_0, Option.bind_some, jm_ps, gD_copy_59]
    · have e1 := (hr.1 r1 h1).1
      rw [hq1] at e1
      have e2 : (jm_wi σ 21 0 0 0).1 22 0 r1 = nI q1.1 := e1.2
      have e3 := (hr.1 r3 h3).1
      rw [hq3] at e3
      have e4 : (jm_wi σ 21 0 0 0).1 22 0 r3 = nI q3.1 := e3.2
      rw [gM_copy_0, r_isRow, if_pos hx1, Option.bind_some, jm_ps, gM_copy_9, jm_cf (by decide), r_isRow, if_pos hx3, Option.bind_some, jm_ps, gM_copy_16, jm_ct (by decide), hin1, cond_true, hcl1, e2, jm_cf (nI_pos (by omega)), hin3, cond_true, hcl3, e4, jm_ct (nI_pos' (by omega)), cond_true, cond_true, jm_cf (fun h9 => hl ((lane_eq hA h1 h3 hq1 hq3).mp h9)), gM_finding_0, Option.bind_some, jm_ps, gM_copy_71]
  have z0 : (0 : Int32).toInt = 0 := rfl
  -- the reference, behind the lanes
  have hrS : ∀ σ, rRel σ A → jm_call 60 jM_copy [jm_R 21 0, jm_I (nI r1), jm_I x2, jm_I (nI r3), jm_I x4, jm_I x5] σ = if (0 ≤ x2.toInt ∧ 0 ≤ x5.toInt ∧ x2.toInt + x5.toInt ≤ q1.2) ∧ (0 ≤ x4.toInt ∧ 0 ≤ x5.toInt ∧ x4.toInt + x5.toInt ≤ q3.2) then jm_ev 59 (jM_copy, 143, [some (jm_R 21 0), some (jm_I (nI r1)), some (jm_I x2), some (jm_I (nI r3)), some (jm_I x4), some (jm_I x5), some (jm_I (bI (decide (¬ x2 < x4)))), some (jm_I 0), none], [], jm_wi (jm_wi σ 21 0 0 0) 21 0 1 0) else some (some (jm_I (-1000010 - 2)), jm_wi (jm_wi (jm_wi σ 21 0 0 0) 21 0 1 0) 21 0 1 2) := by
    intro σ hr
    have e1 := (hr.1 r1 h1).1
    rw [hq1] at e1
    have e2 : (jm_wi σ 21 0 0 0).1 22 0 r1 = nI q1.1 := e1.2
    have e2' : (jm_wi σ 21 0 0 0).1 23 0 r1 = nI q1.2 := e1.1
    have e3 := (hr.1 r3 h3).1
    rw [hq3] at e3
    have e4 : (jm_wi σ 21 0 0 0).1 22 0 r3 = nI q3.1 := e3.2
    have e4' : (jm_wi σ 21 0 0 0).1 23 0 r3 = nI q3.2 := e3.1
    rw [gM_copy_0, r_isRow, if_pos hx1, Option.bind_some, jm_ps, gM_copy_9, jm_cf (by decide), r_isRow, if_pos hx3, Option.bind_some, jm_ps, gM_copy_16, jm_ct (by decide), hin1, cond_true, hcl1, e2, jm_cf (nI_pos (by omega)), hin3, cond_true, hcl3, e4, jm_ct (nI_pos' (by omega)), cond_true, cond_true, jm_ct ((lane_eq hA h1 h3 hq1 hq3).mpr hl), cond_true, cond_true, e2', e4', gM_copy_121, gM_finding_0, Option.bind_some, jm_ps, gM_copy_126, gM_copy_138, gM_copy_138]
    by_cases a2 : x2 < 0
    · rw [jm_ct a2, if_neg]
      rw [jm_ti32] at a2; omega
    rw [jm_cf a2]
    rw [jm_ti32] at a2
    by_cases a4 : x4 < 0
    · rw [jm_ct a4, if_neg]
      rw [jm_ti32] at a4; omega
    rw [jm_cf a4]
    rw [jm_ti32] at a4
    by_cases a5 : x5 < 0
    · rw [jm_ct a5, if_neg]
      rw [jm_ti32] at a5; omega
    rw [jm_cf a5]
    rw [jm_ti32] at a5
    by_cases b2 : 0 < lg_cmp (x2.toInt64 + x5.toInt64) (nI q1.2).toInt64
    · rw [jm_ct b2, if_neg]
      rw [jm_lg_gt, jm_ti64, jm_add64, jm_i64, nI_toInt (by omega)] at b2; omega
    rw [jm_cf b2]
    rw [jm_lg_gt, jm_ti64, jm_add64, jm_i64, nI_toInt (by omega)] at b2
    by_cases b4 : x4.toInt + x5.toInt ≤ q3.2
    · have b4' : lg_cmp (x4.toInt64 + x5.toInt64) (nI q3.2).toInt64 ≤ 0 := by
        rw [jm_te32]
        have : ¬ (0 : Int32) < lg_cmp (x4.toInt64 + x5.toInt64) (nI q3.2).toInt64 := by
          rw [jm_lg_gt, jm_ti64, jm_add64, jm_i64, nI_toInt (by omega)]; omega
        rw [jm_ti32] at this
        omega
      rw [jm_ct b4', if_pos (by omega)]
      by_cases c : x2 < x4
      · rw [jm_ct c]; simp [c, bI]
      · rw [jm_cf c]; simp [c, bI]
    · have b4' : ¬ lg_cmp (x4.toInt64 + x5.toInt64) (nI q3.2).toInt64 ≤ 0 := by
        rw [jm_te32]
        have : (0 : Int32) < lg_cmp (x4.toInt64 + x5.toInt64) (nI q3.2).toInt64 := by
          rw [jm_lg_gt, jm_ti64, jm_add64, jm_i64, nI_toInt (by omega)]; omega
        rw [jm_ti32] at this
        omega
      rw [jm_cf b4', if_neg (by omega)]
  by_cases hw : (0 ≤ x2.toInt ∧ 0 ≤ x5.toInt ∧ x2.toInt + x5.toInt ≤ q1.2) ∧ (0 ≤ x4.toInt ∧ 0 ≤ x5.toInt ∧ x4.toInt + x5.toInt ≤ q3.2)
  case neg =>
    refine ⟨jm_I (-1000010 - 2), aFdW A 2, hA.fd _, fun σ hc => ⟨jm_wi σ 0 0 13 2, ?_, hc.fd 2, jm_ag.wi rfl⟩, fun σ hr => ⟨jm_wi (jm_wi (jm_wi σ 21 0 0 0) 21 0 1 0) 21 0 1 2, ?_, ((hr.th 0).fd 0).fd 2, ((jm_ag.wi rfl).tr (jm_ag.wi rfl)).tr (jm_ag.wi rfl)⟩⟩
    · rw [hcS σ hc, jm_ct hl, c_isWithin 58 hc hA h1 hq1, Option.bind_some, jm_ps, gD_copy_68, gD_copy_83, gD_found_0, Option.bind_some, jm_ps, gD_copy_88]
      by_cases hw1 : 0 ≤ x2.toInt ∧ 0 ≤ x5.toInt ∧ x2.toInt + x5.toInt ≤ q1.2
      · have hw3 : ¬ (0 ≤ x4.toInt ∧ 0 ≤ x5.toInt ∧ x4.toInt + x5.toInt ≤ q3.2) := fun h9 => hw ⟨hw1, h9⟩
        rw [if_pos hw1, jm_cf (by decide), c_isWithin 58 hc hA h3 hq3, if_neg hw3, Option.bind_some, jm_ps, gD_copy_80, jm_cf (fun h9 => h9 rfl), gD_copy_83, gD_found_0, Option.bind_some, jm_ps, gD_copy_88]
      · rw [if_neg hw1, jm_ct rfl]
    · rw [hrS σ hr, if_neg hw]
  obtain ⟨hw1, hw3⟩ := hw
  obtain ⟨a, ha, rfl⟩ := jm_nI_of (x := x2) (n := 41) hw1.1 (by omega)
  obtain ⟨b, hb, rfl⟩ := jm_nI_of (x := x4) (n := 41) hw3.1 (by omega)
  obtain ⟨n, hn, rfl⟩ := jm_nI_of (x := x5) (n := 41) hw1.2.1 (by omega)
  have hw1' := hw1
  have hw3' := hw3
  rw [nI_toInt (by omega), nI_toInt (by omega)] at hw1' hw3'
  have han : a + n ≤ 40 := by omega
  have hbn : b + n ≤ 40 := by omega
  refine ⟨jm_I (nI n), aFdW (aRoW A (aRw A, itC A r1 r3 a b n)) 0, hA.fd 0, fun σ hc => ?_, fun σ hr => ?_⟩
  · have hcw : cRw ((jm_wc σ 4 r3 4 r1 a b n).1 1 0) ((jm_wc σ 4 r3 4 r1 a b n).1 2 0) ((jm_wc σ 4 r3 4 r1 a b n).1 4) (aRoW A (aRw A, itC A r1 r3 a b n)) := by
      intro r' hr'
      refine ⟨(hc.1 r' hr').1, fun i hi => ?_⟩
      show _ = if r' = r3 then va_cpy (aIt A r1) (aIt A r3) a b n i else aIt A r' i
      rw [jm_wc1]
      by_cases h8 : r' = r3
      · subst h8
        rw [if_pos ⟨rfl, rfl⟩, if_pos rfl]
        unfold va_cpy
        by_cases h7 : b ≤ i ∧ i < b + n
        · rw [if_pos h7, if_pos h7]; exact (hc.1 r1 h1).2 _ (by omega)
        · rw [if_neg h7, if_neg h7]; exact (hc.1 r' hr').2 i hi
      · rw [if_neg (fun h9 => h8 h9.2), if_neg h8]; exact (hc.1 r' hr').2 i hi
    refine ⟨jm_wi (jm_wc σ 4 r3 4 r1 a b n) 0 0 13 0, ?_, (cRel.rows hc (jm_ag.wc rfl) hcw).fd 0, (jm_ag.wc rfl).tr (jm_ag.wi rfl)⟩
    rw [hcS σ hc, jm_ct hl, c_isWithin 58 hc hA h1 hq1, if_pos hw1, Option.bind_some, jm_ps, gD_copy_68, jm_cf (by decide), c_isWithin 58 hc hA h3 hq3, if_pos hw3, Option.bind_some, jm_ps, gD_copy_80, jm_ct (by decide), hin1, cond_true, hin3, cond_true, hcl1, hcl3, jm_cl (show a < 2 ^ 31 by omega), jm_cl (show b < 2 ^ 31 by omega), jm_cl (show n < 2 ^ 31 by omega), jm_ct ⟨nI_pos (by omega), nI_pos (by omega), nI_pos (by omega), han, hbn⟩, gD_clean_0, Option.bind_some, jm_ps, gD_copy_115]
  · have hfw : decide (¬ nI a < nI b) = decide (¬ a < b) := by
      rw [decide_eq_decide, nI_ltI (by omega) (by omega)]
    obtain ⟨σ', e1, e2, e3, e4, e5⟩ := r_copyL (jm_wi (jm_wi σ 21 0 0 0) 21 0 1 0) h1 h3 han hbn (decide (¬ nI a < nI b)) hfw n 0 (jm_wi (jm_wi σ 21 0 0 0) 21 0 1 0) none (by omega) jm_ag.rf rfl rfl (fun r i hr' hi => by
      rw [if_neg]
      rintro ⟨-, hm⟩
      unfold mvd at hm
      cases hd : decide (¬ nI a < nI b) with
      | true => rw [hd] at hm; simp at hm; omega
      | false => rw [hd] at hm; simp at hm; omega)
    have hrw : rRw (σ'.1 22 0) (σ'.1 23 0) (σ'.1 24 0) (aRoW (aFdW A 0) (aRw A, itC A r1 r3 a b n)) := by
      intro r' hr'
      rw [e3, e4]
      refine ⟨(hr.1 r' hr').1, fun i hi => ?_⟩
      show _ = if r' = r3 then va_cpy (aIt A r1) (aIt A r3) a b n i else aIt A r' i
      rw [e5 r' i hr' hi]
      show (if r' = r3 ∧ (b ≤ i ∧ i < b + n) then σ.1 24 0 (40 * r1 + a + (i - b)) else σ.1 24 0 (40 * r' + i)) = _
      unfold va_cpy
      by_cases h8 : r' = r3
      · subst h8
        rw [if_pos rfl]
        by_cases h7 : b ≤ i ∧ i < b + n
        · rw [if_pos ⟨rfl, h7⟩, if_pos h7, show 40 * r1 + a + (i - b) = 40 * r1 + (a + (i - b)) by omega]; exact (hr.1 r1 h1).2 _ (by omega)
        · rw [if_neg (fun h9 => h7 h9.2), if_neg h7]; exact (hr.1 r' hr').2 i hi
      · rw [if_neg (fun h9 => h8 h9.1), if_neg h8]; exact (hr.1 r' hr').2 i hi
    refine ⟨σ', ?_, rRel.rows (A := aFdW A 0) ((hr.th 0).fd 0) e2 hrw, ((jm_ag.wi rfl).tr (jm_ag.wi rfl)).tr (C24_rf e2)⟩
    rw [hrS σ hr, if_pos ⟨hw1, hw3⟩]
    exact e1
