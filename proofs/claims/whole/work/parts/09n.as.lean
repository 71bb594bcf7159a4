-- METHODS: as, count, ask
def isK (a b : Nat) : Bool := match a with
  | 0 => b == 0
  | 1 => b == 1 || b == 0
  | 2 => b == 2 || b == 1 || b == 0
  | 3 => b == 3 || b == 1 || b == 0
  | 4 => b == 4 || b == 0
  | _ => b == 5 || b == 4 || b == 0
theorem nI_eqI {a b : Nat} (ha : a < 2 ^ 31) (hb : b < 2 ^ 31) : nI a = nI b ↔ a = b := by
  constructor
  · intro h
    have := congrArg Int32.toInt h
    rw [nI_toInt ha, nI_toInt hb] at this
    omega
  · intro h; rw [h]
theorem kS (e : Nat) (σ : jm_S) (x0 : Int32) {a b c : Nat} (ha : a < 6) (hb : b < 6) (hc : c < 6) : jm_ev e (jD_isOfKind, 4, [some (jm_I x0), some (jm_I (nI b)), some (jm_I (nI a)), some (jm_I (nI c))], [], σ) = if a = b then some (some (jm_I 1), σ) else jm_ev e (jD_isOfKind, 4, [some (jm_I x0), some (jm_I (nI b)), some (jm_I ((jm_tb 42).getD a 0)), some (jm_I (nI (c + 1)))], [], σ) := by
  rw [gD_isOfKind_4, jm_cf (show ¬ (6 : Int32) ≤ nI c from nI_ge (b := 6) hc (by decide)), jm_cf (nI_pos (by omega)), jm_cf (show ¬ (6 : Int32) ≤ nI a from nI_ge (b := 6) ha (by decide)), jm_in_nI ha (by decide), cond_true, jm_cl (by omega), nI_1]
  by_cases h : a = b
  · rw [jm_cf (fun h9 => h9 ((nI_eqI (by omega) (by omega)).mpr h)), if_pos h]
  · have h9 : ¬ nI a = nI b := fun q => h ((nI_eqI (by omega) (by omega)).mp q)
    rw [jm_ct h9, if_neg h]
theorem kE (e : Nat) (σ : jm_S) (x0 : Int32) {b c : Nat} (hc : c < 6) : jm_ev e (jD_isOfKind, 4, [some (jm_I x0), some (jm_I (nI b)), some (jm_I (-1)), some (jm_I (nI c))], [], σ) = some (some (jm_I 0), σ) := by
  rw [gD_isOfKind_4, jm_cf (show ¬ (6 : Int32) ≤ nI c from nI_ge (b := 6) hc (by decide)), jm_ct (show (-1 : Int32) < 0 by decide), gD_isOfKind_39]
theorem c_isOfKind (e : Nat) (σ : jm_S) {a b : Nat} (ha : a < 6) (h1 : 1 ≤ a) (hb : b < 6) : jm_call (e + 1) jD_isOfKind [jm_I (nI a), jm_I (nI b)] σ = some (some (jm_I (bI (isK a b))), σ) := by
  have t0 : (jm_tb 42).getD 0 0 = -1 := rfl
  have t1 : (jm_tb 42).getD 1 0 = nI 0 := rfl
  have t2 : (jm_tb 42).getD 2 0 = nI 1 := rfl
  have t3 : (jm_tb 42).getD 3 0 = nI 1 := rfl
  have t4 : (jm_tb 42).getD 4 0 = nI 0 := rfl
  have t5 : (jm_tb 42).getD 5 0 = nI 4 := rfl
  have z : (0 : Int32) = nI 0 := rfl
  rw [gD_isOfKind_0]
  rcases (show a = 1 ∨ a = 2 ∨ a = 3 ∨ a = 4 ∨ a = 5 by omega) with rfl | rfl | rfl | rfl | rfl
  · show jm_ev e (jD_isOfKind, 4, [some (jm_I (nI 1)), some (jm_I (nI b)), some (jm_I (nI 1)), some (jm_I (nI 0))], [], σ) = _
    rw [kS e σ _ (by omega) hb (by omega), t1, kS e σ _ (by omega) hb (by omega), t0, kE e σ _ (by omega)]
    rcases (show b = 0 ∨ b = 1 ∨ b = 2 ∨ b = 3 ∨ b = 4 ∨ b = 5 by omega) with rfl | rfl | rfl | rfl | rfl | rfl <;> rfl
  · show jm_ev e (jD_isOfKind, 4, [some (jm_I (nI 2)), some (jm_I (nI b)), some (jm_I (nI 2)), some (jm_I (nI 0))], [], σ) = _
    rw [kS e σ _ (by omega) hb (by omega), t2, kS e σ _ (by omega) hb (by omega), t1, kS e σ _ (by omega) hb (by omega), t0, kE e σ _ (by omega)]
    rcases (show b = 0 ∨ b = 1 ∨ b = 2 ∨ b = 3 ∨ b = 4 ∨ b = 5 by omega) with rfl | rfl | rfl | rfl | rfl | rfl <;> rfl
  · show jm_ev e (jD_isOfKind, 4, [some (jm_I (nI 3)), some (jm_I (nI b)), some (jm_I (nI 3)), some (jm_I (nI 0))], [], σ) = _
    rw [kS e σ _ (by omega) hb (by omega), t3, kS e σ _ (by omega) hb (by omega), t1, kS e σ _ (by omega) hb (by omega), t0, kE e σ _ (by omega)]
    rcases (show b = 0 ∨ b = 1 ∨ b = 2 ∨ b = 3 ∨ b = 4 ∨ b = 5 by omega) with rfl | rfl | rfl | rfl | rfl | rfl <;> rfl
  · show jm_ev e (jD_isOfKind, 4, [some (jm_I (nI 4)), some (jm_I (nI b)), some (jm_I (nI 4)), some (jm_I (nI 0))], [], σ) = _
    rw [kS e σ _ (by omega) hb (by omega), t4, kS e σ _ (by omega) hb (by omega), t0, kE e σ _ (by omega)]
    rcases (show b = 0 ∨ b = 1 ∨ b = 2 ∨ b = 3 ∨ b = 4 ∨ b = 5 by omega) with rfl | rfl | rfl | rfl | rfl | rfl <;> rfl
  · show jm_ev e (jD_isOfKind, 4, [some (jm_I (nI 5)), some (jm_I (nI b)), some (jm_I (nI 5)), some (jm_I (nI 0))], [], σ) = _
    rw [kS e σ _ (by omega) hb (by omega), t5, kS e σ _ (by omega) hb (by omega), t4, kS e σ _ (by omega) hb (by omega), t0, kE e σ _ (by omega)]
    rcases (show b = 0 ∨ b = 1 ∨ b = 2 ∨ b = 3 ∨ b = 4 ∨ b = 5 by omega) with rfl | rfl | rfl | rfl | rfl | rfl <;> rfl
theorem r_isOf (e : Nat) (σ : jm_S) {a b : Nat} (ha : a < 6) (h1 : 1 ≤ a) (hb : b < 6) : jm_call (e + 1) jM_isOf [jm_I (nI a), jm_I (nI b)] σ = some (some (jm_I (bI (isK a b))), σ) := by
  simp only [gM_isOf_0, gM_isOf_19, gM_isOf_29, gM_isOf_33, gM_isOf_34]
  rcases (show a = 1 ∨ a = 2 ∨ a = 3 ∨ a = 4 ∨ a = 5 by omega) with rfl | rfl | rfl | rfl | rfl <;> rcases (show b = 0 ∨ b = 1 ∨ b = 2 ∨ b = 3 ∨ b = 4 ∨ b = 5 by omega) with rfl | rfl | rfl | rfl | rfl | rfl <;> rfl
theorem kind_of {A : aS} (hA : okA A) {i : Nat} (hi : i < (aSh A).1) : ∃ κ, 1 ≤ κ ∧ κ < 6 ∧ (aSh A).2.2 3 i = nI κ := by
  have h := (hA.2.2.1.2.2.2 i hi).2.2.2
  obtain ⟨κ, h1, h2⟩ := jm_nI_of (x := (aSh A).2.2 3 i) (n := 6) (by omega) (by omega)
  refine ⟨κ, ?_, h1, h2⟩
  rw [h2, nI_toInt (by omega)] at h
  omega
theorem P_as {A : aS} (hA : okA A) (x y : Int32) : Pair A jD_as jM_as [jm_I x, jm_I y] := by
  have h6 := hA.2.2.1.1
  by_cases h : 0 ≤ x.toInt ∧ x.toInt < (aSh A).1
  case neg =>
    refine ⟨jm_I (-1000001), A, hA, fun σ hc => ⟨σ, ?_, hc, jm_ag.rf⟩, fun σ hr => ⟨jm_wi σ 21 0 0 0, ?_, hr.th 0, jm_ag.wi rfl⟩⟩
    · rw [gD_as_0, c_has 58 σ 0 _ hc.2.2.1.1 h6, if_neg h, Option.bind_some, jm_ps, gD_as_8, jm_ct rfl, gD_as_21]
    · rw [gM_as_0, r_isDisc 57 _ _ (hr.th 0).2.2.1.1 h6, if_neg h, Option.bind_some, jm_ps, gM_as_10, jm_ct rfl, gM_as_25]
  obtain ⟨i, hi, rfl⟩ := jm_nI_of h.1 h.2
  by_cases hy : 0 ≤ y.toInt ∧ y.toInt ≤ (5 : Nat)
  case neg =>
    refine ⟨jm_I (-1000001), A, hA, fun σ hc => ⟨σ, ?_, hc, jm_ag.rf⟩, fun σ hr => ⟨jm_wi σ 21 0 0 0, ?_, hr.th 0, jm_ag.wi rfl⟩⟩
    · rw [gD_as_0, c_has 58 σ 0 _ hc.2.2.1.1 h6, if_pos h, Option.bind_some, jm_ps, gD_as_8, jm_cf (by decide), gD_as_21]
      by_cases h0 : y < 0
      · rw [jm_ct h0]
      · rw [jm_cf h0, jm_cf]
        rw [jm_ti32, show (0 : Int32).toInt = 0 from rfl] at h0
        rw [jm_ti32, show (6 : Int32).toInt = 6 from rfl]
        omega
    · rw [gM_as_0, r_isDisc 57 _ _ (hr.th 0).2.2.1.1 h6, if_pos h, Option.bind_some, jm_ps, gM_as_10, jm_cf (by decide), r_inK 58 _ _ 5 (n := 5) rfl, if_neg hy, Option.bind_some, jm_ps, gM_as_22, jm_cf (fun h9 => h9 rfl), gM_as_25]
  obtain ⟨b, hb, rfl⟩ := jm_nI_of (x := y) (n := 6) hy.1 (by omega)
  obtain ⟨κ, k1, k6, hκ⟩ := kind_of hA hi
  have hin6 : jm_in3 (nI i) 6 = true := jm_in_nI (by omega) (by decide)
  have hcr : ∀ σ, cRel σ A → σ.1 9 3 i = nI κ := fun σ hc => (hc.2.2.1.2.2 3 (by omega) i hi).trans hκ
  have hrr : ∀ σ, rRel σ A → (jm_wi (jm_wi σ 21 0 0 0) 21 0 1 0).1 25 0 (2 + 4 * i) = nI κ := fun σ hr => ((hr.2.2.1.2.2 i hi).1).trans hκ
  have hcS : ∀ σ, cRel σ A → jm_call 60 jD_as [jm_R 0 0, jm_I (nI i), jm_I (nI b)] σ = jm_ev 59 (jD_as, 39, [some (jm_R 0 0), some (jm_I (nI i)), some (jm_I (nI b))], [jm_I (bI (isK κ b))], σ) := fun σ hc => by
    rw [gD_as_0, c_has 58 σ 0 _ hc.2.2.1.1 h6, if_pos h, Option.bind_some, jm_ps, gD_as_8, jm_cf (by decide), jm_cf (nI_pos (by omega)), jm_ct (show nI b < 6 from nI_lt (b := 6) hb (by decide)), hin6, cond_true, jm_cl (by omega), hcr σ hc, c_isOfKind 58 σ k6 k1 hb, Option.bind_some, jm_ps]
  have hrS : ∀ σ, rRel σ A → jm_call 60 jM_as [jm_R 21 0, jm_I (nI i), jm_I (nI b)] σ = jm_ev 59 (jM_as, 46, [some (jm_R 21 0), some (jm_I (nI i)), some (jm_I (nI b))], [jm_I (bI (isK κ b))], jm_wi (jm_wi σ 21 0 0 0) 21 0 1 0) := fun σ hr => by
    rw [gM_as_0, r_isDisc 57 _ _ (hr.th 0).2.2.1.1 h6, if_pos h, Option.bind_some, jm_ps, gM_as_10, jm_cf (by decide), r_inK 58 _ _ 5 (n := 5) rfl, if_pos hy, Option.bind_some, jm_ps, gM_as_22, jm_ct (by decide), r_of0 58 _ 0 (show i < 6 by omega), hrr σ hr, Option.bind_some, jm_ps, gM_as_42, r_isOf 58 _ k6 k1 hb, Option.bind_some, jm_ps]
  cases hk : isK κ b with
  | false =>
    refine ⟨jm_I (-1000010 - 3), aFdW A 3, hA.fd _, fun σ hc => ⟨jm_wi σ 0 0 13 3, ?_, hc.fd 3, jm_ag.wi rfl⟩, fun σ hr => ⟨jm_wi (jm_wi (jm_wi σ 21 0 0 0) 21 0 1 0) 21 0 1 3, ?_, ((hr.th 0).fd 0).fd 3, ((jm_ag.wi rfl).tr (jm_ag.wi rfl)).tr (jm_ag.wi rfl)⟩⟩
    · rw [hcS σ hc, hk, gD_as_39, jm_ct (show bI false = 0 from rfl), gD_found_0, Option.bind_some, jm_ps, gD_as_55]
    · rw [hrS σ hr, hk, gM_as_46, jm_ct (show bI false = 0 from rfl), gM_finding_0, Option.bind_some, jm_ps, gM_as_58]
  | true =>
    refine ⟨jm_I (nI i), aFdW A 0, hA.fd _, fun σ hc => ⟨jm_wi σ 0 0 13 0, ?_, hc.fd 0, jm_ag.wi rfl⟩, fun σ hr => ⟨jm_wi (jm_wi σ 21 0 0 0) 21 0 1 0, ?_, (hr.th 0).fd 0, (jm_ag.wi rfl).tr (jm_ag.wi rfl)⟩⟩
    · rw [hcS σ hc, hk, gD_as_39, jm_cf (show ¬ bI true = 0 by decide), gD_clean_0, Option.bind_some, jm_ps, gD_as_47, gD_as_55]
    · rw [hrS σ hr, hk, gM_as_46, jm_cf (show ¬ bI true = 0 by decide), gM_as_58]
-- count
def cnt (R : Nat → Option (Nat × Nat)) : Nat → Nat
  | 0 => 0
  | k + 1 => cnt R k + (if (R k).isNone then 0 else 1)
theorem cnt_le (R : Nat → Option (Nat × Nat)) : ∀ k, cnt R k ≤ k
  | 0 => Nat.le_refl _
  | k + 1 => by have := cnt_le R k; unfold cnt; split <;> omega
def sumK (f : Nat → Int32) : Nat → Int32
  | 0 => 0
  | k + 1 => sumK f k + f k
theorem c_rtsL (e : Nat) {σ : jm_S} {A : aS} (hc : cRel σ A) (hA : okA A) : ∀ (f k : Nat), k + f = 8 → jm_ev (e + 1) (jD_rowsThatStand, 4, [some (jm_R 0 0), some (jm_I (nI (cnt (aRw A) k))), some (jm_I (nI k))], [], σ) = some (some (jm_I (nI (cnt (aRw A) 8))), σ)
  | 0, k, h => by
    have : k = 8 := by omega
    subst this
    rw [gD_rowsThatStand_4, jm_ct (show (8 : Int32) ≤ nI 8 by decide)]
  | f + 1, k, h => by
    have ih := c_rtsL e hc hA f (k + 1) (by omega)
    rw [gD_rowsThatStand_4, jm_cf (show ¬ (8 : Int32) ≤ nI k from nI_ge (b := 8) (by omega) (by decide)), c_isMissing e hc hA (show k < 8 by omega), Option.bind_some, jm_ps, gD_rowsThatStand_15, gD_rowsThatStand_21, gD_rowsThatStand_21, nI_1, nI_1]
    unfold cnt at ih
    cases hq : aRw A k with
    | none => rw [hq] at ih; rw [jm_ct (by decide)]; exact ih
    | some q => rw [hq] at ih; rw [jm_cf (fun h9 => h9 rfl)]; exact ih
theorem r_cntL {σ : jm_S} {A : aS} (x1 : Int32) (hr : rRel σ A) (hA : okA A) : ∀ (f k : Nat), k + f = 8 → jm_ev 59 (jM_count, 54, [some (jm_R 21 0), some (jm_I x1), some (jm_I (nI (cnt (aRw A) k))), some (jm_I (nI k))], [], σ) = some (some (jm_I (nI (cnt (aRw A) 8))), σ)
  | 0, k, h => by
    have : k = 8 := by omega
    subst this
    rw [gM_count_54, jm_ct (show (8 : Int32) ≤ nI 8 by decide)]
  | f + 1, k, h => by
    have ih := r_cntL x1 hr hA f (k + 1) (by omega)
    have h1 := (hr.1 k (by omega)).1
    rw [gM_count_54, jm_cf (show ¬ (8 : Int32) ≤ nI k from nI_ge (b := 8) (by omega) (by decide)), jm_in_nI (show k < 8 by omega) (by decide), cond_true, jm_cl (by omega), gM_count_75, gM_count_75, nI_1]
    unfold cnt at ih
    cases hq : aRw A k with
    | none =>
      rw [hq] at ih h1
      have h1 : σ.1 22 0 k = -1 := h1
      rw [h1, jm_ct (by decide), show (0 : Int32) = nI 0 from rfl, nI_add]
      exact ih
    | some q =>
      rw [hq] at ih h1
      have h9 := (hA.1 k (by omega) q hq).1
      rw [h1.2, jm_cf (nI_pos (by omega)), nI_1]
      exact ih
theorem msk (k : Nat) (hk : k < 6) : (((-1 : Int32) >>> (nI k &&& 31)) &&& 1) = 1 := by
  rcases (show k = 0 ∨ k = 1 ∨ k = 2 ∨ k = 3 ∨ k = 4 ∨ k = 5 by omega) with rfl | rfl | rfl | rfl | rfl | rfl <;> decide
theorem c_sumL (e : Nat) (σ : jm_S) {q u : Nat} (hu : u < 4) {S : sS} (h6 : S.1 ≤ 6) (hs : cS σ q S) : ∀ (f k : Nat), k + f = S.1 → jm_ev e (jS_sumOf, 5, [some (jm_R 7 q), some (jm_I (nI u)), some (jm_I (-1)), some (jm_I (sumK (S.2.2 u) k)), some (jm_I (nI k))], [], σ) = some (some (jm_I (sumK (S.2.2 u) S.1)), σ)
  | 0, k, h => by
    have : k = S.1 := by omega
    subst this
    rw [gS_sumOf_5, hs.1, jm_ct (nI_le (Nat.le_refl _) (by omega))]
  | f + 1, k, h => by
    have ih := c_sumL e σ hu h6 hs f (k + 1) (by omega)
    rw [gS_sumOf_5, hs.1, jm_cf (nI_ge (by omega) (by omega)), jm_cf (fun h9 => h9 (msk k (by omega))), jm_in_nI hu (by decide), cond_true, jm_in_nI (show k < 6 by omega) (by decide), cond_true, jm_cl (by omega), jm_cl (by omega), gS_sumOf_36, nI_1, hs.2.2 u hu k (by omega)]
    exact ih
theorem r_togL (e : Nat) (σ : jm_S) {u : Nat} (hu : u < 2) {S : sS} (h6 : S.1 ≤ 6) (hs : rS (σ.1 25 0) S) : ∀ (f k : Nat), k + f = S.1 → jm_ev (e + 1) (jM_together, 4, [some (jm_R 21 0), some (jm_I (nI (u + 1))), some (jm_I (sumK (S.2.2 u) k)), some (jm_I (nI k))], [], σ) = some (some (jm_I (sumK (S.2.2 u) S.1)), σ)
  | 0, k, h => by
    have : k = S.1 := by omega
    subst this
    rw [gM_together_4, hs.1, jm_ct (nI_le (Nat.le_refl _) (by omega))]
  | f + 1, k, h => by
    have ih := r_togL e σ hu h6 hs f (k + 1) (by omega)
    have hrd : σ.1 25 0 (2 + 4 * k + (u + 1)) = S.2.2 u k := by
      rcases (show u = 0 ∨ u = 1 by omega) with rfl | rfl
      · exact (hs.2.2 k (by omega)).2.1
      · exact (hs.2.2 k (by omega)).2.2.1
    rw [gM_together_4, hs.1, jm_cf (nI_ge (by omega) (by omega)), r_of e σ 0 (show k < 6 by omega) (show u + 1 < 4 by omega), hrd, Option.bind_some, jm_ps, gM_together_24, nI_1]
    exact ih
theorem P_count {A : aS} (hA : okA A) (x : Int32) : Pair A jD_count jM_count [jm_I x] := by
  have h6 := hA.2.2.1.1
  have go : ∀ v, (∀ σ, cRel σ A → jm_call 60 jD_count [jm_R 0 0, jm_I x] σ = some (some (jm_I v), σ)) → (∀ σ, rRel σ A → jm_call 60 jM_count [jm_R 21 0, jm_I x] σ = some (some (jm_I v), jm_wi σ 21 0 0 0)) → Pair A jD_count jM_count [jm_I x] := fun v h1 h2 => ⟨jm_I v, A, hA, fun σ hc => ⟨σ, h1 σ hc, hc, jm_ag.rf⟩, fun σ hr => ⟨jm_wi σ 21 0 0 0, h2 σ hr, hr.th 0, jm_ag.wi rfl⟩⟩
  by_cases c0 : x.toInt = 0
  · refine go (nI (cnt (aRw A) 8)) (fun σ hc => ?_) (fun σ hr => ?_)
    · rw [gD_count_0, jm_ct c0, gD_rowsThatStand_0]
      have w : jm_ev 58 (jD_rowsThatStand, 4, [some (jm_R 0 0), some (jm_I 0), some (jm_I 0)], [], σ) = _ := c_rtsL 57 hc hA 8 0 rfl
      rw [w, Option.bind_some, jm_ps, gD_count_48]
    · rw [gM_count_0, jm_ct c0]
      exact r_cntL x (hr.th 0) hA 8 0 rfl
  by_cases c1 : x.toInt = 1
  · refine go (nI (aSh A).1) (fun σ hc => ?_) (fun σ hr => ?_)
    · rw [gD_count_0, jm_cf c0, jm_ct c1, hc.2.2.1.1]
    · rw [gM_count_0, jm_cf c0, jm_ct c1, hr.2.2.1.1]
  by_cases c2 : x.toInt = 2
  · refine go (aSh A).2.1 (fun σ hc => ?_) (fun σ hr => ?_)
    · rw [gD_count_0, jm_cf c0, jm_cf c1, jm_ct c2, hc.2.2.1.2.1]
    · rw [gM_count_0, jm_cf c0, jm_cf c1, jm_ct c2, hr.2.2.1.2.1]
  by_cases c3 : x.toInt = 3
  · refine go (sumK ((aSh A).2.2 0) (aSh A).1) (fun σ hc => ?_) (fun σ hr => ?_)
    · have w : jm_ev 58 (jS_sumOf, 5, [some (jm_R 7 0), some (jm_I 0), some (jm_I (-1)), some (jm_I 0), some (jm_I 0)], [], σ) = _ := c_sumL 58 σ (u := 0) (by omega) h6 hc.2.2.1 (aSh A).1 0 (by omega)
      rw [gD_count_0, jm_cf c0, jm_cf c1, jm_cf c2, jm_ct c3, gS_sumOf_0, w, Option.bind_some, jm_ps, gD_count_74]
    · have w : jm_ev 58 (jM_together, 4, [some (jm_R 21 0), some (jm_I 1), some (jm_I 0), some (jm_I 0)], [], jm_wi σ 21 0 0 0) = _ := r_togL 57 (jm_wi σ 21 0 0 0) (u := 0) (by omega) h6 (hr.th 0).2.2.1 (aSh A).1 0 (by omega)
      rw [gM_count_0, jm_cf c0, jm_cf c1, jm_cf c2, jm_ct c3, gM_together_0, w, Option.bind_some, jm_ps, gM_count_104]
  by_cases c4 : x.toInt = 4
  · refine go (sumK ((aSh A).2.2 1) (aSh A).1) (fun σ hc => ?_) (fun σ hr => ?_)
    · have w : jm_ev 58 (jS_sumOf, 5, [some (jm_R 7 0), some (jm_I 1), some (jm_I (-1)), some (jm_I 0), some (jm_I 0)], [], σ) = _ := c_sumL 58 σ (u := 1) (by omega) h6 hc.2.2.1 (aSh A).1 0 (by omega)
      rw [gD_count_0, jm_cf c0, jm_cf c1, jm_cf c2, jm_cf c3, jm_ct c4, gS_sumOf_0, w, Option.bind_some, jm_ps, gD_count_84]
    · have w : jm_ev 58 (jM_together, 4, [some (jm_R 21 0), some (jm_I 2), some (jm_I 0), some (jm_I 0)], [], jm_wi σ 21 0 0 0) = _ := r_togL 57 (jm_wi σ 21 0 0 0) (u := 1) (by omega) h6 (hr.th 0).2.2.1 (aSh A).1 0 (by omega)
      rw [gM_count_0, jm_cf c0, jm_cf c1, jm_cf c2, jm_cf c3, jm_ct c4, gM_together_0, w, Option.bind_some, jm_ps, gM_count_110]
  by_cases c5 : x.toInt = 5
  · refine go (nI (aAc A).1) (fun σ hc => ?_) (fun σ hr => ?_)
    · rw [gD_count_0, jm_cf c0, jm_cf c1, jm_cf c2, jm_cf c3, jm_cf c4, jm_ct c5, hc.2.2.2.1.1]
    · rw [gM_count_0, jm_cf c0, jm_cf c1, jm_cf c2, jm_cf c3, jm_cf c4, jm_ct c5, hr.2.2.2.1.1]
  by_cases c6 : x.toInt = 6
  · refine go (nI (aTp A).1) (fun σ hc => ?_) (fun σ hr => ?_)
    · rw [gD_count_0, jm_cf c0, jm_cf c1, jm_cf c2, jm_cf c3, jm_cf c4, jm_cf c5, jm_ct c6, hc.2.1.1]
    · rw [gM_count_0, jm_cf c0, jm_cf c1, jm_cf c2, jm_cf c3, jm_cf c4, jm_cf c5, jm_ct c6, hr.2.1.1]
  refine go (-1000001) (fun σ hc => ?_) (fun σ hr => ?_)
  · rw [gD_count_0, jm_cf c0, jm_cf c1, jm_cf c2, jm_cf c3, jm_cf c4, jm_cf c5, jm_cf c6]
  · rw [gM_count_0, jm_cf c0, jm_cf c1, jm_cf c2, jm_cf c3, jm_cf c4, jm_cf c5, jm_cf c6]
