-- METHODS: clear
/-- at is more than t away from a box -/
def aw (at_ t : Nat) (o : Option Nat) : Bool := match o with
  | none => true
  | some l => decide (l + t < at_ ∨ at_ + t < l)
def cB (b : Nat → Option Nat) (at_ t : Nat) : Nat → Bool
  | 0 => true
  | k + 1 => cB b at_ t k && aw at_ t (b k)
def fC (P : Nat → Bool) : Nat → Nat → Option Nat
  | 0, _ => none
  | f + 1, a => if P a = true then some a else fC P f (a + 1)
theorem cB_f {b : Nat → Option Nat} {a t k : Nat} (h : aw a t (b k) = false) : ∀ {n : Nat}, k < n → cB b a t n = false
  | 0, hk => absurd hk (Nat.not_lt_zero k)
  | n + 1, hk => by
    by_cases hkn : k = n
    · subst hkn; simp [cB, h]
    · simp [cB, cB_f h (show k < n by omega)]
theorem c_clL (e : Nat) (σ : jm_S) {n : Nat} {b : Nat → Option Nat} {a t : Nat} (ha : a ≤ 200) (ht : t ≤ 9) (h6 : n ≤ 6) (h5 : σ.1 14 0 5 = nI n) (hb : ∀ k, k < n → σ.1 19 0 k = vB (b k)) (hl : ∀ k l, b k = some l → l ≤ 200) : ∀ (f k : Nat), k + f = n → cB b a t k = true → jm_ev e (jP_isClearBy, 2, [some (jm_R 14 0), some (jm_I (nI a)), some (jm_I (nI t)), some (jm_I (nI k))], [], σ) = some (some (jm_I (bI (cB b a t n))), σ)
  | 0, k, h, hc => by
    have : k = n := by omega
    subst this
    rw [gP_isClearBy_2, h5, jm_ct (nI_le (Nat.le_refl _) (by omega)), hc]
    rfl
  | f + 1, k, h, hc => by
    have ih := c_clL e σ ha ht h6 h5 hb hl f (k + 1) (by omega)
    rw [gP_isClearBy_2, h5, jm_cf (nI_ge (show k < n by omega) (by omega)), jm_in_nI (show k < 6 by omega) (by decide), cond_true, cond_true, jm_cl (by omega), hb k (by omega), gP_isClearBy_38, nI_1]
    cases hx : b k with
    | none =>
      rw [jm_ct (show vB none = -1000000 from rfl)]
      exact ih (by simp [cB, hc, hx, aw])
    | some l =>
      have hl2 := hl _ _ hx
      rw [jm_cf (fun h9 => by have := (vB_none (fun l h9 => hl k l (hx.trans h9))).mp h9; cases this)]
      have hd : (nI a - nI l).toInt = (a : Int) - l := pk_sub_toInt (by omega) (by omega)
      have hcond : (nI t < if 0 ≤ nI a - vB (some l) then nI a - vB (some l) else 0 - (nI a - vB (some l))) ↔ (l + t < a ∨ a + t < l) := by
        show (nI t < if 0 ≤ nI a - nI l then nI a - nI l else 0 - (nI a - nI l)) ↔ _
        by_cases hal : l ≤ a
        · rw [if_pos (by rw [jm_te32, hd]; show (0 : Int) ≤ _; omega), jm_ti32, nI_toInt (by omega), hd]
          omega
        · rw [if_neg (by rw [jm_te32, hd]; show ¬ (0 : Int) ≤ _; omega)]
          have e1 : 0 - (nI a - nI l) = nI l - nI a := by
            rw [jm_q32, pk_sub_toInt (by omega) (by omega), Int32.toInt_sub, hd]
            rw [show (0 : Int32).toInt = 0 from rfl]
            unfold Int.bmod
            dsimp only
            split <;> omega
          rw [e1, jm_ti32, nI_toInt (by omega), pk_sub_toInt (by omega) (by omega)]
          omega
      by_cases hw : l + t < a ∨ a + t < l
      · rw [jm_ct (hcond.mpr hw)]
        exact ih (by simp [cB, hc, hx, aw, hw])
      · rw [jm_cf (fun h9 => hw (hcond.mp h9)), cB_f (k := k) (by simp [hx, aw, hw]) (by omega)]
        rfl
theorem c_isClearBy (e : Nat) (σ : jm_S) {n : Nat} {b : Nat → Option Nat} {a t : Nat} (ha : a ≤ 200) (ht : t ≤ 9) (h6 : n ≤ 6) (h5 : σ.1 14 0 5 = nI n) (hb : ∀ k, k < n → σ.1 19 0 k = vB (b k)) (hl : ∀ k l, b k = some l → l ≤ 200) : jm_call (e + 1) jP_isClearBy [jm_R 14 0, jm_I (nI a), jm_I (nI t)] σ = some (some (jm_I (bI (cB b a t n))), σ) := by
  rw [gP_isClearBy_0]
  exact c_clL e σ ha ht h6 h5 hb hl n 0 (by omega) rfl
theorem r_clL (e : Nat) (σ : jm_S) {n : Nat} {b : Nat → Option Nat} {a t : Nat} (ha : a ≤ 200) (ht : t ≤ 9) (h6 : n ≤ 6) (h5 : σ.1 25 0 0 = nI n) (hb : ∀ k, k < n → σ.1 29 0 k = vB (b k)) (hl : ∀ k l, b k = some l → l ≤ 200) : ∀ (f k : Nat), k + f = n → jm_ev e (jM_isClear, 5, [some (jm_R 21 0), some (jm_I (nI a)), some (jm_I (nI t)), some (jm_I (bI (cB b a t k))), some (jm_I (nI k))], [], σ) = some (some (jm_I (bI (cB b a t n))), σ)
  | 0, k, h => by
    have : k = n := by omega
    subst this
    rw [gM_isClear_5, h5, jm_ct (nI_le (Nat.le_refl _) (by omega)), bI_01, cond_true]
  | f + 1, k, h => by
    have ih := r_clL e σ ha ht h6 h5 hb hl f (k + 1) (by omega)
    rw [gM_isClear_5, h5, jm_cf (nI_ge (show k < n by omega) (by omega)), jm_in_nI (show k < 6 by omega) (by decide), cond_true, cond_true, cond_true, jm_cl (by omega), hb k (by omega), gM_isClear_58, gM_isClear_62, gM_isClear_63, gM_isClear_63, nI_1]
    cases hc : cB b a t k with
    | false =>
      rw [jm_ct (show bI false = 0 from rfl)]
      rw [show cB b a t (k + 1) = false by simp [cB, hc]] at ih
      exact ih
    | true =>
      rw [jm_cf (show ¬ bI true = 0 by decide)]
      cases hx : b k with
      | none =>
        rw [jm_ct (show vB none = -1000000 from rfl)]
        rw [show cB b a t (k + 1) = true by simp [cB, hc, hx, aw]] at ih
        exact ih
      | some l =>
        have hl2 := hl _ _ hx
        rw [jm_cf (fun h9 => by have := (vB_none (fun l h9 => hl k l (hx.trans h9))).mp h9; cases this)]
        have hd : (nI a - vB (some l)).toInt = (a : Int) - l := pk_sub_toInt (by omega) (by omega)
        have hd2 : (vB (some l) - nI a).toInt = (l : Int) - a := pk_sub_toInt (by omega) (by omega)
        by_cases h1 : l + t < a
        · rw [jm_ct (by rw [jm_ti32, hd, nI_toInt (by omega)]; omega)]
          rw [show cB b a t (k + 1) = true by simp [cB, hc, hx, aw, h1]] at ih
          exact ih
        · rw [jm_cf (by rw [jm_ti32, hd, nI_toInt (by omega)]; omega)]
          by_cases h2 : a + t < l
          · rw [jm_cf (by rw [jm_te32, hd2, nI_toInt (by omega)]; omega)]
            rw [show cB b a t (k + 1) = true by simp [cB, hc, hx, aw, h2]] at ih
            exact ih
          · rw [jm_ct (by rw [jm_te32, hd2, nI_toInt (by omega)]; omega)]
            rw [show cB b a t (k + 1) = false by simp [cB, hc, hx, aw, h1, h2]] at ih
            exact ih
theorem r_isClear (e : Nat) (σ : jm_S) {n : Nat} {b : Nat → Option Nat} {a t : Nat} (ha : a ≤ 200) (ht : t ≤ 9) (h6 : n ≤ 6) (h5 : σ.1 25 0 0 = nI n) (hb : ∀ k, k < n → σ.1 29 0 k = vB (b k)) (hl : ∀ k l, b k = some l → l ≤ 200) : jm_call (e + 1) jM_isClear [jm_R 21 0, jm_I (nI a), jm_I (nI t)] σ = some (some (jm_I (bI (cB b a t n))), σ) := by
  rw [gM_isClear_0]
  exact r_clL e σ ha ht h6 h5 hb hl n 0 (by omega)
theorem c_clearL (σ : jm_S) {n : Nat} {b : Nat → Option Nat} {t : Nat} (x1 : Int32) (ht : t ≤ 9) (h6 : n ≤ 6) (h5 : σ.1 14 0 5 = nI n) (hb : ∀ k, k < n → σ.1 19 0 k = vB (b k)) (hl : ∀ k l, b k = some l → l ≤ 200) : ∀ (f a : Nat), a + f = 201 → jm_ev 59 (jD_clear, 63, [some (jm_R 0 0), some (jm_I x1), some (jm_I (nI t)), some (jm_I (nI a))], [], σ) = some (some (jm_I (vB (fC (fun a => cB b a t n) f a))), jm_wi σ 0 0 13 0)
  | 0, a, h => by
    have : a = 201 := by omega
    subst this
    rw [gD_clear_63, jm_ct (show (200 : Int32) < nI 201 by decide), gD_clean_0, Option.bind_some, jm_ps, gD_clear_100]
    rfl
  | f + 1, a, h => by
    have ih := c_clearL σ x1 ht h6 h5 hb hl f (a + 1) (by omega)
    rw [gD_clear_63, jm_cf (show ¬ (200 : Int32) < nI a from nI_nlt (b := a) (a := 200) (by omega) (by omega)), c_isClearBy 58 σ (show a ≤ 200 by omega) ht h6 h5 hb hl, Option.bind_some, jm_ps, gD_clear_79]
    cases hP : cB b a t n with
    | false =>
      rw [jm_ct (show bI false = 0 from rfl), nI_1, ih]
      simp [fC, hP]
    | true =>
      rw [jm_cf (show ¬ bI true = 0 by decide), gD_clean_0, Option.bind_some, jm_ps, gD_clear_87]
      simp [fC, hP, vB]
theorem r_clearL (σ : jm_S) {n : Nat} {b : Nat → Option Nat} {m t : Nat} (hm : m ≤ 200) (ht : t ≤ 9) (h6 : n ≤ 6) (h5 : σ.1 25 0 0 = nI n) (h19 : σ.1 21 0 19 = 0) (hb : ∀ k, k < n → σ.1 29 0 k = vB (b k)) (hl : ∀ k l, b k = some l → l ≤ 200) : ∀ (f a : Nat), a = m + f → a ≤ 201 → ∃ x4, jm_ev 59 (jM_clear, 64, [some (jm_R 21 0), some (jm_I (nI m)), some (jm_I (nI t)), some (jm_I (vB (fC (fun a => cB b a t n) (201 - a) a))), some (jm_I (nI a - 1))], [], σ) = jm_ev 59 (jM_clear, 100, [some (jm_R 21 0), some (jm_I (nI m)), some (jm_I (nI t)), some (jm_I (vB (fC (fun a => cB b a t n) (201 - m) m))), some (jm_I x4)], [], σ)
  | 0, a, h, h201 => by
    have : a = m := by omega
    subst this
    refine ⟨nI a - 1, ?_⟩
    rw [gM_clear_64, jm_ct]
    rw [jm_ti32, nI_m1 (by omega), nI_toInt (by omega)]
    omega
  | f + 1, a, h, h201 => by
    obtain ⟨a, rfl⟩ : ∃ a', a = a' + 1 := ⟨a - 1, by omega⟩
    obtain ⟨x4, ih⟩ := r_clearL σ hm ht h6 h5 h19 hb hl f a (by omega) (by omega)
    refine ⟨x4, ?_⟩
    rw [nS1 (by omega), show a + 1 - 1 = a by omega, gM_clear_64, jm_cf (nI_nlt (show m ≤ a by omega) (by omega)), h19, jm_cf (fun h9 => h9 rfl), r_isClear 58 σ (show a ≤ 200 by omega) ht h6 h5 hb hl, Option.bind_some, jm_ps, gM_clear_84, gM_clear_93, gM_clear_93]
    have hst : fC (fun a => cB b a t n) (201 - a) a = if cB b a t n = true then some a else fC (fun a => cB b a t n) (201 - (a + 1)) (a + 1) := by
      rw [show 201 - a = (201 - (a + 1)) + 1 by omega]
      rfl
    have hm1 : nI a + (-1) = nI a - 1 := by
      rw [jm_q32, Int32.toInt_add, Int32.toInt_sub]
      rfl
    rw [hst] at ih
    rw [hm1]
    cases hP : cB b a t n with
    | false =>
      rw [hP] at ih
      rw [jm_ct (show bI false = 0 from rfl)]
      exact ih
    | true =>
      rw [hP] at ih
      rw [jm_cf (show ¬ bI true = 0 by decide)]
      exact ih
theorem c09 (x : Int32) : (x < 0 ∨ ¬ x ≤ 9) ∨ ∃ t, t ≤ 9 ∧ x = nI t := by
  by_cases h : 0 ≤ x.toInt ∧ x.toInt < (10 : Nat)
  · obtain ⟨j, hj, rfl⟩ := jm_nI_of h.1 h.2
    exact Or.inr ⟨j, by omega, rfl⟩
  · left
    rw [jm_ti32, jm_te32, show (0 : Int32).toInt = 0 from rfl, show (9 : Int32).toInt = 9 from rfl]
    omega
theorem r_in9 (e : Nat) (σ : jm_S) (x : Int32) : jm_call (e + 1) jM_in [jm_L x.toInt64, jm_L 0, jm_L 9] σ = some (some (jm_I (if 0 ≤ x.toInt ∧ x.toInt ≤ 9 then 1 else 0)), σ) := by
  rw [r_in]
  simp only [jm_i64, show (0 : Int64).toInt = 0 from rfl, show (9 : Int64).toInt = 9 from rfl]
theorem P_clear {A : aS} (hA : okA A) (x y : Int32) : Pair A jD_clear jM_clear [jm_I x, jm_I y] := by
  have h6 := hA.2.2.1.1
  by_cases h0 : (aSh A).1 = 0
  · refine ⟨jm_I (-1000002), A, hA, fun σ hc => ⟨σ, ?_, hc, jm_ag.rf⟩, fun σ hr => ⟨jm_wi σ 21 0 0 0, ?_, hr.th 0, jm_ag.wi rfl⟩⟩
    · rw [gD_clear_0, hc.2.2.1.1, h0, jm_cf (fun h9 => h9 rfl)]
    · rw [gM_clear_0, r_isThere 58 _ (hr.th 0).2.2.1.1 h6, if_pos h0, Option.bind_some, jm_ps, gM_clear_9, jm_cf (fun h9 => h9 rfl)]
  · have hne : ¬ nI (aSh A).1 = 0 := nI_ne0 (by omega) (by omega)
    by_cases hx : 0 ≤ x.toInt ∧ x.toInt ≤ 200
    · rcases c09 y with hy | ⟨t, ht, rfl⟩
      · refine ⟨jm_I (-1000001), A, hA, fun σ hc => ⟨σ, ?_, hc, jm_ag.rf⟩, fun σ hr => ⟨jm_wi σ 21 0 0 0, ?_, hr.th 0, jm_ag.wi rfl⟩⟩
        · rw [gD_clear_0, hc.2.2.1.1, jm_ct hne, c_isMark, if_pos hx, Option.bind_some, jm_ps, gD_clear_17, jm_cf (by decide), gD_clear_30]
          by_cases hy0 : y < 0
          · rw [jm_ct hy0]
          · rw [jm_cf hy0, jm_cf (hy.resolve_left hy0)]
        · have hin : ¬ (0 ≤ y.toInt ∧ y.toInt ≤ 9) := by
            rw [jm_ti32, jm_te32, show (0 : Int32).toInt = 0 from rfl, show (9 : Int32).toInt = 9 from rfl] at hy
            omega
          rw [gM_clear_0, r_isThere 58 _ (hr.th 0).2.2.1.1 h6, if_neg h0, Option.bind_some, jm_ps, gM_clear_9, jm_ct (by decide), r_inM, if_pos hx, Option.bind_some, jm_ps, gM_clear_24, jm_cf (by decide), r_in9, if_neg hin, Option.bind_some, jm_ps, gM_clear_36, jm_cf (fun h9 => h9 rfl), gM_clear_39]
      · obtain ⟨m, hm, rfl⟩ := jm_nI_of (n := 201) hx.1 (by omega)
        have hbl : ∀ k l, bxS (aSh A) k = some l → l ≤ 200 := fun k l h9 => bxS_le h9
        have hin : 0 ≤ (nI t).toInt ∧ (nI t).toInt ≤ 9 := by rw [nI_toInt (by omega)]; omega
        generalize hv : vB (fC (fun a => cB (bxS (aSh A)) a t (aSh A).1) (201 - m) m) = v
        refine ⟨jm_I (cond (aO (BS (aSh A)) (aSh A).1) (-1000016) v), aFdW A (cond (aO (BS (aSh A)) (aSh A).1) 6 0), hA.fd _, fun σ hc => ?_, fun σ hr => ?_⟩
        · obtain ⟨σ1, e1, e2, e3⟩ := c_measure 56 σ 0 h6 hc.2.2.1
          obtain ⟨σ2, f1, f2, f3, f4⟩ := c_boxesAll 54 σ1 h6 e2
          have hsc := (C17_sc e3).tr (C19_sc f3)
          obtain ⟨g1, g2⟩ := cFin (x := cond (aO (BS (aSh A)) (aSh A).1) 6 0) hc hsc
          refine ⟨_, ?_, g1, g2⟩
          rw [gD_clear_0, hc.2.2.1.1, jm_ct hne, c_isMark, if_pos hx, Option.bind_some, jm_ps, gD_clear_17, jm_cf (by decide), jm_cf (nI_pos (by omega)), jm_ct (show nI t ≤ 9 from nI_le (b := 9) ht (by omega)), e1, Option.bind_some, jm_pn, gD_clear_44, f1, Option.bind_some, jm_ps, gD_clear_51]
          cases ho : aO (BS (aSh A)) (aSh A).1 with
          | true =>
            have ho' : aO (blS (aSh A).1 (sw (aSh A)) (ss (aSh A)) (st (aSh A))) (aSh A).1 = true := ho
            rw [ho', jm_cf (fun h9 => h9 rfl), gD_found_0, Option.bind_some, jm_ps, gD_clear_60]
            rfl
          | false =>
            have ho' : aO (blS (aSh A).1 (sw (aSh A)) (ss (aSh A)) (st (aSh A))) (aSh A).1 = false := ho
            have hbx : ∀ k, k < (aSh A).1 → σ2.1 19 0 k = vB (bxS (aSh A) k) := fun k hk => by
              rw [f4 ho' k hk, ← xR_v, ← bxS_eq ho hk]
              rfl
            rw [ho', jm_ct (by decide), c_clearL σ2 (nI m) ht h6 f2.1 hbx hbl (201 - m) m (by omega), hv]
            rfl
        · have hr' := hr.th 0
          obtain ⟨σ1, e1, e2, e3, e4, e5⟩ := r_layBoxes 52 _ 0 hA.2.2.1.K hr'.2.2.1 h6
          have hr1 := hr'.sc (C29_rs e4) e3.live
          obtain ⟨σ2, f1, f2, f3⟩ := r_unlessR 57 (cond (aO (BS (aSh A)) (aSh A).1) (-1000000) v) e2 hr1
          refine ⟨σ2, ?_, f2, ((jm_ag.wi rfl).tr (Crs_rf (C29_rs e4))).tr f3⟩
          rw [gM_clear_0, r_isThere 58 _ hr'.2.2.1.1 h6, if_neg h0, Option.bind_some, jm_ps, gM_clear_9, jm_ct (by decide), r_inM, if_pos hx, Option.bind_some, jm_ps, gM_clear_24, jm_cf (by decide), r_in9, if_pos hin, Option.bind_some, jm_ps, gM_clear_36, jm_ct (by decide), hr'.2.2.1.1, e1, Option.bind_some, jm_pn, gM_clear_56]
          have hend : ∀ x4 : Int32, jm_ev 59 (jM_clear, 100, [some (jm_R 21 0), some (jm_I (nI m)), some (jm_I (nI t)), some (jm_I (cond (aO (BS (aSh A)) (aSh A).1) (-1000000) v)), some (jm_I x4)], [], σ1) = some (some (jm_I (cond (aO (BS (aSh A)) (aSh A).1) (-1000016) v)), σ2) := by
            intro x4
            rw [gM_clear_100, f1, Option.bind_some, jm_ps, gM_clear_105]
            cases aO (BS (aSh A)) (aSh A).1 <;> rfl
          cases ho : aO (BS (aSh A)) (aSh A).1 with
          | true =>
            rw [ho] at hend e2
            rw [gM_clear_64, e2, jm_cf (show ¬ (200 : Int32) < nI m from nI_nlt (a := 200) (by omega) (by omega)), jm_ct (show ¬ bI true = 0 by decide)]
            exact hend 200
          | false =>
            rw [ho] at hend e2
            have hbx : ∀ k, k < (aSh A).1 → σ1.1 29 0 k = vB (bxS (aSh A) k) := fun k hk => by
              rw [e5 ho k hk, ← xN_v, ← bxS_eq ho hk]
            obtain ⟨x4, hw⟩ := r_clearL σ1 (m := m) (by omega) ht h6 hr1.2.2.1.1 e2 hbx hbl (201 - m) 201 (by omega) (by omega)
            rw [hv] at hw
            have hw' : jm_ev 59 (jM_clear, 64, [some (jm_R 21 0), some (jm_I (nI m)), some (jm_I (nI t)), some (jm_I (-1000000)), some (jm_I 200)], [], σ1) = _ := hw
            rw [hw']
            exact hend _
    · refine ⟨jm_I (-1000001), A, hA, fun σ hc => ⟨σ, ?_, hc, jm_ag.rf⟩, fun σ hr => ⟨jm_wi σ 21 0 0 0, ?_, hr.th 0, jm_ag.wi rfl⟩⟩
      · rw [gD_clear_0, hc.2.2.1.1, jm_ct hne, c_isMark, if_neg hx, Option.bind_some, jm_ps, gD_clear_17, jm_ct rfl, gD_clear_30]
      · rw [gM_clear_0, r_isThere 58 _ (hr.th 0).2.2.1.1 h6, if_neg h0, Option.bind_some, jm_ps, gM_clear_9, jm_ct (by decide), r_inM, if_neg hx, Option.bind_some, jm_ps, gM_clear_24, jm_ct rfl, gM_clear_39]
