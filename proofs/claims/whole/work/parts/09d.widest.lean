-- METHODS: widest, clear
def bxS (S : sS) (k : Nat) : Option Nat := (boxS (BS S) k).getD none
def vB (o : Option Nat) : Int32 := match o with
  | none => -1000000
  | some l => nI l
theorem bxS_eq {S : sS} {n k : Nat} (h : aO (BS S) n = false) (hk : k < n) : boxS (BS S) k = some (bxS S k) := by
  have := aO_at h k hk
  unfold bxS
  cases hb : boxS (BS S) k with
  | none => rw [hb] at this; cases this
  | some o => rfl
theorem xR_v (o : Option Nat) : xR (some o) = vB o := by cases o <;> rfl
theorem xN_v (o : Option Nat) : xN (some o) = vB o := by cases o <;> rfl
theorem bxS_le {S : sS} {k l : Nat} (h : bxS S k = some l) : l ≤ 200 := by
  unfold bxS at h
  cases hb : boxS (BS S) k with
  | none => rw [hb] at h; cases h
  | some o =>
    rw [hb] at h
    have h : o = some l := h
    subst h
    exact boxS_le hb
theorem vB_none {o : Option Nat} (h : ∀ l, o = some l → l ≤ 200) : vB o = -1000000 ↔ o = none := by
  cases o with
  | none => exact ⟨fun _ => rfl, fun _ => rfl⟩
  | some l =>
    constructor
    · intro h9
      have h1 := nI_nneg (show l < 2 ^ 31 by have := h l rfl; omega)
      have h2 : (nI l).toInt = -1000000 := by rw [show nI l = -1000000 from h9]; rfl
      omega
    · intro h9; cases h9
theorem bis_mono {B : Int32 → Option Nat} {k : Nat} : ∀ {f lo hi y x : Nat}, lo ≤ hi → bis B k f lo hi = some y → bis B (k + 1) f lo hi = some x → y ≤ x
  | 0, lo, hi, y, x, _, e1, e2 => by cases e1; cases e2; exact Nat.le_refl _
  | f + 1, lo, hi, y, x, h, e1, e2 => by
    unfold bis at e1 e2
    by_cases h1 : hi ≤ lo + 1
    · rw [if_pos h1] at e1 e2
      cases e1; cases e2; exact Nat.le_refl _
    · rw [if_neg h1] at e1 e2
      cases hb : B (nI ((lo + hi) / 2)) with
      | none => rw [hb] at e1; cases e1
      | some c =>
        rw [hb] at e1 e2
        dsimp only at e1 e2
        by_cases hc : c ≤ k
        · rw [if_pos hc] at e1
          rw [if_pos (by omega)] at e2
          exact bis_mono (by omega) e1 e2
        · rw [if_neg hc] at e1
          by_cases hc1 : c ≤ k + 1
          · rw [if_pos hc1] at e2
            have a := (bis_le (by omega) e1).2
            have b := (bis_le (by omega) e2).1
            omega
          · rw [if_neg hc1] at e2
            exact bis_mono (by omega) e1 e2
theorem bxS_mono {S : sS} {k y x : Nat} (hy : bxS S k = some y) (hx : bxS S (k + 1) = some x) : y ≤ x := by
  unfold bxS boxS at hy hx
  cases hb : BS S 200 with
  | none => rw [hb] at hy; cases hy
  | some c =>
    rw [hb] at hy hx
    dsimp only at hy hx
    by_cases hc : c ≤ k
    · rw [if_pos hc] at hy; cases hy
    · rw [if_neg hc] at hy
      by_cases hc1 : c ≤ k + 1
      · rw [if_pos hc1] at hx; cases hx
      · rw [if_neg hc1] at hx
        cases h1 : bis (BS S) k 200 0 200 with
        | none => rw [h1] at hy; cases hy
        | some a =>
          cases h2 : bis (BS S) (k + 1) 200 0 200 with
          | none => rw [h2] at hx; cases hx
          | some b =>
            rw [h1] at hy
            rw [h2] at hx
            have hy : some a = some y := hy
            have hx : some b = some x := hx
            cases hy; cases hx
            exact bis_mono (by omega) h1 h2
def wg (b : Nat → Option Nat) : Nat → Option (Nat × Nat)
  | 0 => none
  | k + 1 => match b (k + 1), b k with
    | some x, some y => match wg b k with
      | none => some (k + 1, x - y)
      | some q => if q.2 < x - y then some (k + 1, x - y) else some q
    | _, _ => wg b k
-- wg b k: behind speeds 1 .. k
theorem wg_at {b : Nat → Option Nat} : ∀ {k : Nat} {q : Nat × Nat}, wg b k = some q → ∃ j x y, q.1 = j + 1 ∧ j + 1 ≤ k ∧ b (j + 1) = some x ∧ b j = some y ∧ q.2 = x - y
  | 0, q, h => by cases h
  | k + 1, q, h => by
    unfold wg at h
    have old : wg b k = some q → ∃ j x y, q.1 = j + 1 ∧ j + 1 ≤ k + 1 ∧ b (j + 1) = some x ∧ b j = some y ∧ q.2 = x - y := fun h9 => by
      obtain ⟨j, x, y, a1, a2, a3⟩ := wg_at h9
      exact ⟨j, x, y, a1, by omega, a3⟩
    split at h
    · next x y hx hy =>
      split at h
      · cases h
        exact ⟨k, x, y, rfl, Nat.le_refl _, hx, hy, rfl⟩
      · next q' hq' =>
        split at h
        · cases h
          exact ⟨k, x, y, rfl, Nat.le_refl _, hx, hy, rfl⟩
        · exact old (hq'.trans h)
    · exact old h
def wW (o : Option (Nat × Nat)) : Int32 := match o with
  | none => -1000000
  | some q => nI q.1
def wG (o : Option (Nat × Nat)) : Int32 := match o with
  | none => -1
  | some q => nI q.2
def wN (o : Option (Nat × Nat)) : Int32 := match o with
  | none => -1000000
  | some q => nI q.2
theorem c_gapAt (e : Nat) (σ : jm_S) {n j x y : Nat} (h6 : n ≤ 6) (h5 : σ.1 14 0 5 = nI n) (hj : j + 1 < n) (hx : σ.1 19 0 (j + 1) = nI x) (hy : σ.1 19 0 j = nI y) (hyx : y ≤ x) : jm_call (e + 1) jP_gapAt [jm_R 14 0, jm_I (nI (j + 1))] σ = some (some (jm_I (nI (x - y))), σ) := by
  rw [gP_gapAt_0, jm_cf (nI_nle (by omega) (by omega)), h5, jm_cf (nI_ge hj (by omega)), jm_in_nI (show j + 1 < 6 by omega) (by decide), cond_true, nS1 (by omega), show j + 1 - 1 = j by omega, jm_in_nI (show j < 6 by omega) (by decide), cond_true, jm_cl (by omega), jm_cl (by omega), gP_gapAt_31, hx, hy, pk_sub hyx]
theorem c_wgL (e : Nat) (σ : jm_S) {n : Nat} {b : Nat → Option Nat} (h6 : n ≤ 6) (h5 : σ.1 14 0 5 = nI n) (hb : ∀ k, k < n → σ.1 19 0 k = vB (b k)) (hl : ∀ k l, b k = some l → l ≤ 200) (hm : ∀ k y x, b k = some y → b (k + 1) = some x → y ≤ x) : ∀ (f k : Nat), k + 1 + f = n → jm_ev (e + 1) (jP_widestGap, 7, [some (jm_R 14 0), some (jm_I (wW (wg b k))), some (jm_I (wG (wg b k))), some (jm_I (nI (k + 1)))], [], σ) = some (some (jm_I (wW (wg b (n - 1)))), σ)
  | 0, k, h => by
    rw [gP_widestGap_7, h5, jm_ct (nI_le (show n ≤ k + 1 by omega) (by omega)), show n - 1 = k by omega]
  | f + 1, k, h => by
    have ih := c_wgL e σ h6 h5 hb hl hm f (k + 1) (by omega)
    rw [gP_widestGap_7, h5, jm_cf (nI_ge (show k + 1 < n by omega) (by omega)), jm_in_nI (show k + 1 < 6 by omega) (by decide), cond_true, nS1 (by omega), show k + 1 - 1 = k by omega, jm_in_nI (show k < 6 by omega) (by decide), cond_true, jm_cl (by omega), jm_cl (by omega), hb (k + 1) (by omega), hb k (by omega)]
    cases hx : b (k + 1) with
    | none =>
      rw [jm_ct ((vB_none (fun l h9 => by cases h9)).mpr rfl), gP_widestGap_59, nI_1]
      rw [show wg b (k + 1) = wg b k by simp [wg, hx]] at ih
      exact ih
    | some x =>
      rw [jm_cf (fun h9 => by have := (vB_none (fun l h9 => hl (k + 1) l (hx.trans h9))).mp h9; cases this)]
      cases hy : b k with
      | none =>
        rw [jm_cf (fun h9 => h9 ((vB_none (fun l h9 => by cases h9)).mpr rfl)), gP_widestGap_59, nI_1]
        rw [show wg b (k + 1) = wg b k by simp [wg, hx, hy]] at ih
        exact ih
      | some y =>
        have hno : ¬ vB (some y) = -1000000 := fun h9 => by have := (vB_none (fun l h9 => hl k l (hy.trans h9))).mp h9; cases this
        have hyx := hm k y x hy hx
        have hx2 := hl _ _ hx
        have hg := c_gapAt e σ h6 h5 (show k + 1 < n by omega) (by rw [hb (k + 1) (by omega), hx]; rfl) (by rw [hb k (by omega), hy]; rfl) hyx
        rw [jm_ct hno, hg, Option.bind_some, jm_ps, gP_widestGap_47]
        have take : wg b (k + 1) = some (k + 1, x - y) → jm_ev (e + 1) (jP_widestGap, 56, [some (jm_R 14 0), some (jm_I (wW (wg b k))), some (jm_I (wG (wg b k))), some (jm_I (nI (k + 1)))], [jm_I (nI (x - y))], σ) = some (some (jm_I (wW (wg b (n - 1)))), σ) := by
          intro h9
          rw [gP_widestGap_56, gP_widestGap_59, nI_1]
          rw [h9] at ih
          exact ih
        cases hw : wg b k with
        | none =>
          have hlt : ¬ nI (x - y) ≤ wG none := by
            rw [jm_te32, nI_toInt (by omega)]
            show ¬ _ ≤ (-1 : Int32).toInt
            rw [show (-1 : Int32).toInt = -1 by decide]
            omega
          rw [jm_cf hlt, hg, Option.bind_some, jm_ps, ← hw]
          exact take (by simp [wg, hx, hy, hw])
        | some q =>
          by_cases hq : q.2 < x - y
          · rw [jm_cf (show ¬ nI (x - y) ≤ wG (some q) from nI_ge hq (by omega)), hg, Option.bind_some, jm_ps, ← hw]
            exact take (by simp [wg, hx, hy, hw, hq])
          · have hq2 : q.2 < 2 ^ 31 := by
              obtain ⟨j, x', y', -, -, a3, -, a5⟩ := wg_at hw
              have := hl _ _ a3
              omega
            rw [jm_ct (show nI (x - y) ≤ wG (some q) from nI_le (by omega) hq2), gP_widestGap_59, nI_1]
            rw [show wg b (k + 1) = some q by simp [wg, hx, hy, hw, hq]] at ih
            exact ih
theorem r_wgL (e : Nat) (σ : jm_S) {n : Nat} {b : Nat → Option Nat} (x1 : Int32) (h6 : n ≤ 6) (h5 : σ.1 25 0 0 = nI n) (h19 : σ.1 21 0 19 = 0) (hb : ∀ k, k < n → σ.1 29 0 k = vB (b k)) (hl : ∀ k l, b k = some l → l ≤ 200) (hm : ∀ k y x, b k = some y → b (k + 1) = some x → y ≤ x) : ∀ (f k : Nat), k + 1 + f = n → jm_ev e (jM_widest, 51, [some (jm_R 21 0), some (jm_I x1), some (jm_I (wW (wg b k))), some (jm_I (wN (wg b k))), some (jm_I (nI (k + 1)))], [], σ) = jm_ev e (jM_widest, 149, [some (jm_R 21 0), some (jm_I x1), some (jm_I (wW (wg b (n - 1)))), some (jm_I (wN (wg b (n - 1)))), some (jm_I (nI n))], [], σ)
  | 0, k, h => by
    rw [gM_widest_51, h5, jm_ct (nI_le (show n ≤ k + 1 by omega) (by omega)), show n - 1 = k by omega, show n = k + 1 by omega]
  | f + 1, k, h => by
    have ih := r_wgL e σ x1 h6 h5 h19 hb hl hm f (k + 1) (by omega)
    rw [gM_widest_51, h5, jm_cf (nI_ge (show k + 1 < n by omega) (by omega)), h19, jm_cf (fun h9 => h9 rfl), jm_in_nI (show k + 1 < 6 by omega) (by decide), cond_true, cond_true, nS1 (by omega), show k + 1 - 1 = k by omega, jm_in_nI (show k < 6 by omega) (by decide), cond_true, cond_true, jm_cl (by omega), jm_cl (by omega), hb (k + 1) (by omega), hb k (by omega)]
    cases hx : b (k + 1) with
    | none =>
      rw [jm_ct ((vB_none (fun l h9 => by cases h9)).mpr rfl), gM_widest_143, nI_1]
      rw [show wg b (k + 1) = wg b k by simp [wg, hx]] at ih
      exact ih
    | some x =>
      rw [jm_cf (fun h9 => by have := (vB_none (fun l h9 => hl (k + 1) l (hx.trans h9))).mp h9; cases this)]
      cases hy : b k with
      | none =>
        rw [jm_ct ((vB_none (fun l h9 => by cases h9)).mpr rfl), gM_widest_143, nI_1]
        rw [show wg b (k + 1) = wg b k by simp [wg, hx, hy]] at ih
        exact ih
      | some y =>
        have hno : ¬ vB (some y) = -1000000 := fun h9 => by have := (vB_none (fun l h9 => hl k l (hy.trans h9))).mp h9; cases this
        have hyx := hm k y x hy hx
        have hx2 := hl _ _ hx
        have hsub : vB (some x) - vB (some y) = nI (x - y) := pk_sub hyx
        rw [jm_cf hno, hsub]
        have take : wg b (k + 1) = some (k + 1, x - y) → jm_ev e (jM_widest, 122, [some (jm_R 21 0), some (jm_I x1), some (jm_I (wW (wg b k))), some (jm_I (wN (wg b k))), some (jm_I (nI (k + 1)))], [], σ) = jm_ev e (jM_widest, 149, [some (jm_R 21 0), some (jm_I x1), some (jm_I (wW (wg b (n - 1)))), some (jm_I (wN (wg b (n - 1)))), some (jm_I (nI n))], [], σ) := by
          intro h9
          rw [gM_widest_122, jm_in_nI (show k + 1 < 6 by omega) (by decide), cond_true, nS1 (by omega), show k + 1 - 1 = k by omega, jm_in_nI (show k < 6 by omega) (by decide), cond_true, jm_cl (by omega), jm_cl (by omega), hb (k + 1) (by omega), hb k (by omega), hx, hy, hsub, gM_widest_143, nI_1]
          rw [h9] at ih
          exact ih
        cases hw : wg b k with
        | none =>
          rw [jm_ct (show wW none = -1000000 from rfl), ← hw]
          exact take (by simp [wg, hx, hy, hw])
        | some q =>
          obtain ⟨j, x', y', a1, a2, a3, -, a5⟩ := wg_at hw
          have hx' := hl _ _ a3
          have hne : ¬ wW (some q) = -1000000 := fun h9 => by
            have h1 := nI_nneg (show q.1 < 2 ^ 31 by omega)
            have h2 : (nI q.1).toInt = -1000000 := by rw [show nI q.1 = -1000000 from h9]; rfl
            omega
          rw [jm_cf hne]
          by_cases hq : q.2 < x - y
          · rw [jm_cf (show ¬ nI (x - y) ≤ wN (some q) from nI_ge hq (by omega)), ← hw]
            exact take (by simp [wg, hx, hy, hw, hq])
          · rw [jm_ct (show nI (x - y) ≤ wN (some q) from nI_le (by omega) (by omega)), gM_widest_143, nI_1]
            rw [show wg b (k + 1) = some q by simp [wg, hx, hy, hw, hq]] at ih
            exact ih
theorem c01 (x : Int32) : (x < 0 ∨ ¬ x ≤ 1) ∨ x = 0 ∨ x = 1 := by
  rw [jm_ti32, jm_te32, jm_q32, jm_q32, show (0 : Int32).toInt = 0 from rfl, show (1 : Int32).toInt = 1 from rfl]
  omega
theorem r_in01 (e : Nat) (σ : jm_S) (x : Int32) : jm_call (e + 1) jM_in [jm_L x.toInt64, jm_L 0, jm_L 1] σ = some (some (jm_I (if 0 ≤ x.toInt ∧ x.toInt ≤ 1 then 1 else 0)), σ) := by
  rw [r_in]
  simp only [jm_i64, show (0 : Int64).toInt = 0 from rfl, show (1 : Int64).toInt = 1 from rfl]
theorem P_widest {A : aS} (hA : okA A) (x : Int32) : Pair A jD_widest jM_widest [jm_I x] := by
  have h6 := hA.2.2.1.1
  by_cases h0 : (aSh A).1 = 0
  · refine ⟨jm_I (-1000002), A, hA, fun σ hc => ⟨σ, ?_, hc, jm_ag.rf⟩, fun σ hr => ⟨jm_wi σ 21 0 0 0, ?_, hr.th 0, jm_ag.wi rfl⟩⟩
    · rw [gD_widest_0, hc.2.2.1.1, h0, jm_cf (fun h9 => h9 rfl)]
    · rw [gM_widest_0, r_isThere 58 _ (hr.th 0).2.2.1.1 h6, if_pos h0, Option.bind_some, jm_ps, gM_widest_9, jm_cf (fun h9 => h9 rfl)]
  · have hne : ¬ nI (aSh A).1 = 0 := nI_ne0 (by omega) (by omega)
    rcases c01 x with hx | hx
    · refine ⟨jm_I (-1000001), A, hA, fun σ hc => ⟨σ, ?_, hc, jm_ag.rf⟩, fun σ hr => ⟨jm_wi σ 21 0 0 0, ?_, hr.th 0, jm_ag.wi rfl⟩⟩
      · rw [gD_widest_0, hc.2.2.1.1, jm_ct hne, gD_widest_22]
        by_cases hx0 : x < 0
        · rw [jm_ct hx0]
        · rw [jm_cf hx0, jm_cf (hx.resolve_left hx0)]
      · have hin : ¬ (0 ≤ x.toInt ∧ x.toInt ≤ 1) := by
          rw [jm_ti32, jm_te32, show (0 : Int32).toInt = 0 from rfl, show (1 : Int32).toInt = 1 from rfl] at hx
          omega
        rw [gM_widest_0, r_isThere 58 _ (hr.th 0).2.2.1.1 h6, if_neg h0, Option.bind_some, jm_ps, gM_widest_9, jm_ct (by decide), r_in01, if_neg hin, Option.bind_some, jm_ps, gM_widest_22, jm_cf (fun h9 => h9 rfl)]
    · have hn2 : 2 ≤ (aSh A).1 := hA.2.2.1.2.1.resolve_left h0
      have hx0 : ¬ x < 0 := by rcases hx with rfl | rfl <;> decide
      have hx1 : x ≤ 1 := by rcases hx with rfl | rfl <;> decide
      have hin : 0 ≤ x.toInt ∧ x.toInt ≤ 1 := by rcases hx with rfl | rfl <;> decide
      generalize hq : wg (bxS (aSh A)) ((aSh A).1 - 1) = q
      have hbl : ∀ k l, bxS (aSh A) k = some l → l ≤ 200 := fun k l h9 => bxS_le h9
      have hbm : ∀ k y x, bxS (aSh A) k = some y → bxS (aSh A) (k + 1) = some x → y ≤ x := fun k y x h1 h2 => bxS_mono h1 h2
      refine ⟨jm_I (cond (aO (BS (aSh A)) (aSh A).1) (-1000016) (if x = 0 then wW q else wN q)), aFdW A (cond (aO (BS (aSh A)) (aSh A).1) 6 0), hA.fd _, fun σ hc => ?_, fun σ hr => ?_⟩
      · obtain ⟨σ1, e1, e2, e3⟩ := c_measure 56 σ 0 h6 hc.2.2.1
        obtain ⟨σ2, f1, f2, f3, f4⟩ := c_boxesAll 54 σ1 h6 e2
        have hsc := (C17_sc e3).tr (C19_sc f3)
        obtain ⟨g1, g2⟩ := cFin (x := cond (aO (BS (aSh A)) (aSh A).1) 6 0) hc hsc
        refine ⟨_, ?_, g1, g2⟩
        rw [gD_widest_0, hc.2.2.1.1, jm_ct hne, jm_cf hx0, jm_ct hx1, e1, Option.bind_some, jm_pn, gD_widest_36, f1, Option.bind_some, jm_ps, gD_widest_43]
        cases ho : aO (BS (aSh A)) (aSh A).1 with
        | true =>
          have ho' : aO (blS (aSh A).1 (sw (aSh A)) (ss (aSh A)) (st (aSh A))) (aSh A).1 = true := ho
          rw [ho', jm_cf (fun h9 => h9 rfl), gD_found_0, Option.bind_some, jm_ps, gD_widest_52]
          rfl
        | false =>
          have ho' : aO (blS (aSh A).1 (sw (aSh A)) (ss (aSh A)) (st (aSh A))) (aSh A).1 = false := ho
          have hbx : ∀ k, k < (aSh A).1 → σ2.1 19 0 k = vB (bxS (aSh A) k) := fun k hk => by
            rw [f4 ho' k hk, ← xR_v, ← bxS_eq ho hk]
            rfl
          have hw := c_wgL 57 σ2 h6 f2.1 hbx hbl hbm ((aSh A).1 - 1) 0 (by omega)
          rw [hq] at hw
          rw [ho', jm_ct (by decide), gP_widestGap_0]
          have hw' : jm_ev 58 (jP_widestGap, 7, [some (jm_R 14 0), some (jm_I (-1000000)), some (jm_I (-1)), some (jm_I 1)], [], σ2) = some (some (jm_I (wW q)), σ2) := hw
          rw [hw', Option.bind_some, jm_ps, gD_widest_60]
          cases q with
          | none =>
            rw [jm_ct (show wW none = -1000000 from rfl), gD_widest_71, gD_clean_0, Option.bind_some, jm_ps, gD_widest_76]
            rcases hx with rfl | rfl <;> rfl
          | some q =>
            obtain ⟨j, x', y', a1, a2, a3, a4, a5⟩ := wg_at hq
            have hx' := hbl _ _ a3
            have hne9 : ¬ wW (some q) = -1000000 := fun h9 => by
              have h1 := nI_nneg (show q.1 < 2 ^ 31 by omega)
              have h2 : (nI q.1).toInt = -1000000 := by rw [show nI q.1 = -1000000 from h9]; rfl
              omega
            rw [jm_cf hne9]
            rcases hx with rfl | rfl
            · rw [jm_cf (fun h9 => h9 rfl), gD_widest_71, gD_clean_0, Option.bind_some, jm_ps, gD_widest_76]
              rfl
            · have hg := c_gapAt 58 σ2 h6 f2.1 (show j + 1 < (aSh A).1 by omega) (by rw [hbx (j + 1) (by omega), a3]; rfl) (by rw [hbx j (by omega), a4]; rfl) (hbm j y' x' a4 a3)
              rw [jm_ct (by decide), show wW (some q) = nI (j + 1) by rw [← a1]; rfl, hg, Option.bind_some, jm_ps, gD_widest_86, gD_clean_0, Option.bind_some, jm_ps, gD_widest_89, ← a5]
              rfl
      · have hr' := hr.th 0
        obtain ⟨σ1, e1, e2, e3, e4, e5⟩ := r_layBoxes 52 _ 0 hA.2.2.1.K hr'.2.2.1 h6
        have hr1 := hr'.sc (C29_rs e4) e3.live
        obtain ⟨σ2, f1, f2, f3⟩ := r_unlessR 57 (if x = 0 then wW (cond (aO (BS (aSh A)) (aSh A).1) none q) else wN (cond (aO (BS (aSh A)) (aSh A).1) none q)) e2 hr1
        refine ⟨σ2, ?_, f2, ((jm_ag.wi rfl).tr (Crs_rf (C29_rs e4))).tr f3⟩
        rw [gM_widest_0, r_isThere 58 _ hr'.2.2.1.1 h6, if_neg h0, Option.bind_some, jm_ps, gM_widest_9, jm_ct (by decide), r_in01, if_pos hin, Option.bind_some, jm_ps, gM_widest_22, jm_ct (by decide), hr'.2.2.1.1, e1, Option.bind_some, jm_pn, gM_widest_42]
        have hend : ∀ x4 : Int32, jm_ev 59 (jM_widest, 149, [some (jm_R 21 0), some (jm_I x), some (jm_I (wW (cond (aO (BS (aSh A)) (aSh A).1) none q))), some (jm_I (wN (cond (aO (BS (aSh A)) (aSh A).1) none q))), some (jm_I x4)], [], σ1) = some (some (jm_I (cond (aO (BS (aSh A)) (aSh A).1) (-1000016) (if x = 0 then wW q else wN q))), σ2) := by
          intro x4
          rw [gM_widest_149]
          rcases hx with rfl | rfl
          · rw [jm_cf (fun h9 => h9 rfl), gM_widest_159]
            have f1' : jm_call 59 jM_unless [jm_R 21 0, jm_I (wW (cond (aO (BS (aSh A)) (aSh A).1) none q))] σ1 = _ := f1
            rw [f1', Option.bind_some, jm_ps, gM_widest_162]
            cases aO (BS (aSh A)) (aSh A).1 <;> rfl
          · rw [jm_ct (by decide), gM_widest_159]
            have f1' : jm_call 59 jM_unless [jm_R 21 0, jm_I (wN (cond (aO (BS (aSh A)) (aSh A).1) none q))] σ1 = _ := f1
            rw [f1', Option.bind_some, jm_ps, gM_widest_162]
            cases aO (BS (aSh A)) (aSh A).1 <;> rfl
        cases ho : aO (BS (aSh A)) (aSh A).1 with
        | true =>
          rw [ho] at hend e2
          rw [gM_widest_51, e2, hr1.2.2.1.1, jm_cf (show ¬ nI (aSh A).1 ≤ 1 from nI_ge (a := 1) (by omega) (by omega)), jm_ct (show ¬ bI true = 0 by decide)]
          exact hend 1
        | false =>
          rw [ho] at hend e2
          have hbx : ∀ k, k < (aSh A).1 → σ1.1 29 0 k = vB (bxS (aSh A) k) := fun k hk => by
            rw [e5 ho k hk, ← xN_v, ← bxS_eq ho hk]
          have hw := r_wgL 59 σ1 x h6 hr1.2.2.1.1 e2 hbx hbl hbm ((aSh A).1 - 1) 0 (by omega)
          rw [hq] at hw
          have hw' : jm_ev 59 (jM_widest, 51, [some (jm_R 21 0), some (jm_I x), some (jm_I (-1000000)), some (jm_I (-1000000)), some (jm_I 1)], [], σ1) = _ := hw
          rw [hw']
          exact hend _
