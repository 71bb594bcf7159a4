-- METHODS: disc, share
theorem jm_toI {x : Int32} {k : Nat} (h : x.toInt = k) (hk : k < 2 ^ 31) : x = nI k := by rw [jm_q32, nI_toInt hk, h]
theorem P_disc {A : aS} (hA : okA A) (x y : Int32) : Pair A jD_disc jM_disc [jm_I x, jm_I y] := by
  have h6 := hA.2.2.1.1
  have go : ∀ v, (∀ σ, cRel σ A → jm_call 60 jD_disc [jm_R 0 0, jm_I x, jm_I y] σ = some (some (jm_I v), σ)) → (∀ σ, rRel σ A → jm_call 60 jM_disc [jm_R 21 0, jm_I x, jm_I y] σ = some (some (jm_I v), jm_wi σ 21 0 0 0)) → Pair A jD_disc jM_disc [jm_I x, jm_I y] := fun v h1 h2 => ⟨jm_I v, A, hA, fun σ hc => ⟨σ, h1 σ hc, hc, jm_ag.rf⟩, fun σ hr => ⟨jm_wi σ 21 0 0 0, h2 σ hr, hr.th 0, jm_ag.wi rfl⟩⟩
  by_cases h : 0 ≤ x.toInt ∧ x.toInt < (aSh A).1
  case neg =>
    refine go (-1000001) (fun σ hc => ?_) (fun σ hr => ?_)
    · rw [gD_disc_0, c_has 58 σ 0 _ hc.2.2.1.1 h6, if_neg h, Option.bind_some, jm_ps, gD_disc_8, jm_cf (fun h9 => h9 rfl)]
    · rw [gM_disc_0, r_isDisc 57 _ _ (hr.th 0).2.2.1.1 h6, if_neg h, Option.bind_some, jm_ps, gM_disc_10, jm_cf (fun h9 => h9 rfl)]
  obtain ⟨i, hi, rfl⟩ := jm_nI_of h.1 h.2
  have hin6 : jm_in3 (nI i) 6 = true := jm_in_nI (by omega) (by decide)
  have hcl : (nI i).toNatClampNeg = i := jm_cl (by omega)
  have hcr : ∀ σ, cRel σ A → ∀ w, w < 4 → σ.1 9 w i = (aSh A).2.2 w i := fun σ hc w hw => by
    have := hc.2.2.1.2.2 w hw i hi
    rw [show 4 * 0 + w = w by omega] at this
    exact this
  have hcS : ∀ σ, cRel σ A → jm_call 60 jD_disc [jm_R 0 0, jm_I (nI i), jm_I y] σ = jm_ev 59 (jD_disc, 8, [some (jm_R 0 0), some (jm_I (nI i)), some (jm_I y)], [jm_I 1], σ) := fun σ hc => by
    rw [gD_disc_0, c_has 58 σ 0 _ hc.2.2.1.1 h6, if_pos h, Option.bind_some, jm_ps]
  have hrS : ∀ σ, rRel σ A → jm_call 60 jM_disc [jm_R 21 0, jm_I (nI i), jm_I y] σ = jm_ev 59 (jM_disc, 10, [some (jm_R 21 0), some (jm_I (nI i)), some (jm_I y)], [jm_I 1], jm_wi σ 21 0 0 0) := fun σ hr => by
    rw [gM_disc_0, r_isDisc 57 _ _ (hr.th 0).2.2.1.1 h6, if_pos h, Option.bind_some, jm_ps]
  by_cases c0 : y.toInt = 0
  · refine go ((aSh A).2.2 0 i) (fun σ hc => ?_) (fun σ hr => ?_)
    · rw [hcS σ hc, gD_disc_8, jm_ct (by decide), jm_ct c0, hin6, cond_true, hcl, hcr σ hc 0 (by omega)]
    · have hy := jm_toI (k := 0) c0 (by omega)
      subst hy
      have hs := (hr.th 0).2.2.1
      rw [hrS σ hr, gM_disc_10, jm_ct (by decide), jm_ct c0, show (1 : Int32) + nI 0 = 1 from rfl, r_of1 58 _ 0 (show i < 6 by omega), (hs.2.2 i hi).2.1, Option.bind_some, jm_ps, gM_disc_71]
  by_cases c1 : y.toInt = 1
  · refine go ((aSh A).2.2 1 i) (fun σ hc => ?_) (fun σ hr => ?_)
    · rw [hcS σ hc, gD_disc_8, jm_ct (by decide), jm_cf c0, jm_ct c1, hin6, cond_true, hcl, hcr σ hc 1 (by omega)]
    · have hy := jm_toI (k := 1) c1 (by omega)
      subst hy
      have hs := (hr.th 0).2.2.1
      rw [hrS σ hr, gM_disc_10, jm_ct (by decide), jm_cf c0, jm_ct c1, show (1 : Int32) + nI 1 = 2 from rfl, r_of2 58 _ 0 (show i < 6 by omega), (hs.2.2 i hi).2.2.1, Option.bind_some, jm_ps, gM_disc_71]
  by_cases c2 : y.toInt = 2
  · refine go ((aSh A).2.2 2 i) (fun σ hc => ?_) (fun σ hr => ?_)
    · rw [hcS σ hc, gD_disc_8, jm_ct (by decide), jm_cf c0, jm_cf c1, jm_ct c2, hin6, cond_true, hcl, hcr σ hc 2 (by omega)]
    · have hy := jm_toI (k := 2) c2 (by omega)
      subst hy
      have hs := (hr.th 0).2.2.1
      rw [hrS σ hr, gM_disc_10, jm_ct (by decide), jm_cf c0, jm_cf c1, jm_ct c2, show (1 : Int32) + nI 2 = 3 from rfl, r_of3 58 _ 0 (show i < 6 by omega), (hs.2.2 i hi).2.2.2, Option.bind_some, jm_ps, gM_disc_71]
  by_cases c3 : y.toInt = 3
  · refine go (rtS (aSh A) i) (fun σ hc => ?_) (fun σ hr => ?_)
    · rw [hcS σ hc, gD_disc_8, jm_ct (by decide), jm_cf c0, jm_cf c1, jm_cf c2, jm_ct c3, c_ratioOf 58 σ 0 i hc.2.2.1 h6 hi, Option.bind_some, jm_ps, gD_disc_100]
    · rw [hrS σ hr, gM_disc_10, jm_ct (by decide), jm_cf c0, jm_cf c1, jm_cf c2, jm_ct c3, r_ratio 57 _ 0 i (hr.th 0).2.2.1 h6 hi, Option.bind_some, jm_ps, gM_disc_80]
  by_cases c4 : y.toInt = 4
  · refine go (weiS (aSh A) i) (fun σ hc => ?_) (fun σ hr => ?_)
    · rw [hcS σ hc, gD_disc_8, jm_ct (by decide), jm_cf c0, jm_cf c1, jm_cf c2, jm_cf c3, jm_ct c4, c_weightOf 57 σ 0 i hc.2.2.1 h6 hi, Option.bind_some, jm_ps, gD_disc_109]
    · rw [hrS σ hr, gM_disc_10, jm_ct (by decide), jm_cf c0, jm_cf c1, jm_cf c2, jm_cf c3, jm_ct c4, r_weight 56 _ 0 i (hr.th 0).2.2.1 h6 hi, Option.bind_some, jm_ps, gM_disc_89]
  by_cases c5 : y.toInt = 5
  · refine go (sprS (aSh A) i) (fun σ hc => ?_) (fun σ hr => ?_)
    · rw [hcS σ hc, gD_disc_8, jm_ct (by decide), jm_cf c0, jm_cf c1, jm_cf c2, jm_cf c3, jm_cf c4, jm_ct c5, c_springOf 57 σ 0 i hc.2.2.1 h6 hi, Option.bind_some, jm_ps, gD_disc_118]
    · rw [hrS σ hr, gM_disc_10, jm_ct (by decide), jm_cf c0, jm_cf c1, jm_cf c2, jm_cf c3, jm_cf c4, jm_ct c5, r_spring 56 _ 0 i (hr.th 0).2.2.1 h6 hi, Option.bind_some, jm_ps, gM_disc_98]
  by_cases c6 : y.toInt = 6
  · refine go (tieS (aSh A) i) (fun σ hc => ?_) (fun σ hr => ?_)
    · rw [hcS σ hc, gD_disc_8, jm_ct (by decide), jm_cf c0, jm_cf c1, jm_cf c2, jm_cf c3, jm_cf c4, jm_cf c5, jm_ct c6, c_tieOf 57 σ 0 i hc.2.2.1 h6 hi, Option.bind_some, jm_ps, gD_disc_127]
    · rw [hrS σ hr, gM_disc_10, jm_ct (by decide), jm_cf c0, jm_cf c1, jm_cf c2, jm_cf c3, jm_cf c4, jm_cf c5, jm_ct c6, r_tie 56 _ 0 i (hr.th 0).2.2.1 h6 hi (hA.2.2.1.K.2 i hi), Option.bind_some, jm_ps, gM_disc_107]
  refine go (-1000001) (fun σ hc => ?_) (fun σ hr => ?_)
  · rw [hcS σ hc, gD_disc_8, jm_ct (by decide), jm_cf c0, jm_cf c1, jm_cf c2, jm_cf c3, jm_cf c4, jm_cf c5, jm_cf c6]
  · rw [hrS σ hr, gM_disc_10, jm_ct (by decide), jm_cf c0, jm_cf c1, jm_cf c2, jm_cf c3, jm_cf c4, jm_cf c5, jm_cf c6]
theorem sumK_ge {f : Nat → Int32} {n : Nat} (h : ∀ i, i < n → 0 ≤ (f i).toInt ∧ (f i).toInt ≤ 40) (h6 : n ≤ 6) : ∀ k, k ≤ n → (0 ≤ (sumK f k).toInt ∧ (sumK f k).toInt ≤ 40 * k) ∧ ∀ i, i < k → (f i).toInt ≤ (sumK f k).toInt
  | 0, _ => ⟨by show 0 ≤ (0 : Int32).toInt ∧ (0 : Int32).toInt ≤ 40 * ((0 : Nat) : Int); decide, fun i hi => absurd hi (Nat.not_lt_zero i)⟩
  | k + 1, hk => by
    obtain ⟨⟨a, b⟩, c⟩ := sumK_ge h h6 k (by omega)
    obtain ⟨d, e⟩ := h k (by omega)
    have hs : (sumK f (k + 1)).toInt = (sumK f k).toInt + (f k).toInt := by
      show (sumK f k + f k).toInt = _
      rw [Int32.toInt_add]
      unfold Int.bmod
      dsimp only
      split <;> omega
    rw [hs]
    refine ⟨⟨by omega, by omega⟩, fun i hi => ?_⟩
    by_cases hik : i = k
    · subst hik; omega
    · have := c i (by omega); omega
def shr (f : Nat → Int32) (tot y : Int32) (d : Nat) : Nat → Int32 × Int32
  | 0 => (y, 0)
  | k + 1 => ((shr f tot y d k).1 - (y * f k) / tot, if d ≤ k then (shr f tot y d k).2 else if f k = 0 then (shr f tot y d k).2 else (shr f tot y d k).2 + 1)
def shA (f : Nat → Int32) (tot y : Int32) (d n : Nat) : Int32 := (y * f d) / tot + (if (shr f tot y d n).1 ≤ (shr f tot y d n).2 then 0 else 1)
theorem c_shL (σ : jm_S) {S : sS} {tot y : Int32} {d : Nat} (h6 : S.1 ≤ 6) (hs : cS σ 0 S) (ht : ¬ tot = 0) (hd : d < S.1) : ∀ (f k : Nat), k + f = S.1 → jm_ev 59 (jD_share, 64, [some (jm_R 0 0), some (jm_I (nI d)), some (jm_I y), some (jm_I tot), some (jm_I (shr (S.2.2 1) tot y d k).1), some (jm_I (shr (S.2.2 1) tot y d k).2), some (jm_I (nI k))], [], σ) = some (some (jm_I (shA (S.2.2 1) tot y d S.1)), σ)
  | 0, k, h => by
    have : k = S.1 := by omega
    subst this
    rw [gD_share_64, hs.1, jm_ct (nI_le (Nat.le_refl _) (by omega)), gD_share_139, gD_share_139, jm_in_nI (show d < 6 by omega) (by decide), cond_true, cond_true, jm_ct ht, jm_ct ht, jm_cl (by omega), show σ.1 9 1 d = S.2.2 1 d from hs.2.2 1 (by omega) d hd]
    unfold shA
    by_cases hle : (shr (S.2.2 1) tot y d S.1).1 ≤ (shr (S.2.2 1) tot y d S.1).2
    · rw [jm_ct hle, if_pos hle]
    · rw [jm_cf hle, if_neg hle]
  | f + 1, k, h => by
    have ih := c_shL σ (y := y) h6 hs ht hd f (k + 1) (by omega)
    have hk : k < S.1 := by omega
    have hfk : σ.1 9 1 k = S.2.2 1 k := hs.2.2 1 (by omega) k hk
    rw [gD_share_64, hs.1, jm_cf (nI_ge hk (by omega)), jm_in_nI (show k < 6 by omega) (by decide), cond_true, jm_ct ht, cond_true, jm_cl (by omega), hfk, gD_share_121, gD_share_121, nI_1]
    unfold shr at ih
    by_cases hdk : d ≤ k
    · rw [if_pos hdk] at ih
      rw [jm_ct (nI_le hdk (by omega))]
      exact ih
    · rw [if_neg hdk] at ih
      rw [jm_cf (nI_ge (by omega) (by omega))]
      by_cases h0 : S.2.2 1 k = 0
      · rw [if_pos h0] at ih
        rw [jm_ct h0]
        exact ih
      · rw [if_neg h0] at ih
        rw [jm_cf h0]
        exact ih
theorem r_shrL (σ : jm_S) {S : sS} {tot y : Int32} {d : Nat} (h6 : S.1 ≤ 6) (hs : rS (σ.1 25 0) S) (hp : ∀ i, i < S.1 → 0 ≤ (S.2.2 1 i).toInt) (ht : ¬ tot = 0) (hd : d < S.1) : ∀ (f k : Nat), k + f = S.1 → jm_ev 59 (jM_share, 61, [some (jm_R 21 0), some (jm_I (nI d)), some (jm_I y), some (jm_I tot), some (jm_I (S.2.2 1 d)), some (jm_I (shr (S.2.2 1) tot y d k).1), some (jm_I (shr (S.2.2 1) tot y d k).2), some (jm_I (nI k))], [], σ) = some (some (jm_I (shA (S.2.2 1) tot y d S.1)), σ)
  | 0, k, h => by
    have : k = S.1 := by omega
    subst this
    rw [gM_share_61, hs.1, jm_ct (nI_le (Nat.le_refl _) (by omega)), jm_ct ht, gM_share_144, gM_share_144]
    unfold shA
    by_cases hle : (shr (S.2.2 1) tot y d S.1).1 ≤ (shr (S.2.2 1) tot y d S.1).2
    · rw [jm_ct hle, if_pos hle]
    · rw [jm_cf hle, if_neg hle]
  | f + 1, k, h => by
    have ih := r_shrL σ (y := y) h6 hs hp ht hd f (k + 1) (by omega)
    have hk : k < S.1 := by omega
    have hfk : σ.1 25 0 (2 + 4 * k + 2) = S.2.2 1 k := (hs.2.2 k hk).2.2.1
    have z0 : (0 : Int32).toInt = 0 := rfl
    rw [gM_share_61, hs.1, jm_cf (nI_ge hk (by omega)), r_of2 58 σ 0 (show k < 6 by omega), hfk, Option.bind_some, jm_ps, gM_share_85, jm_ct ht]
    unfold shr at ih
    by_cases hdk : d ≤ k
    · rw [if_pos hdk] at ih
      rw [jm_ct (nI_le hdk (by omega)), gM_share_116, gM_share_117, nI_1, Int32.add_zero]
      exact ih
    · rw [if_neg hdk] at ih
      rw [jm_cf (nI_ge (by omega) (by omega)), r_of2 58 σ 0 (show k < 6 by omega), hfk, Option.bind_some, jm_ps, gM_share_109]
      by_cases h0 : S.2.2 1 k = 0
      · rw [if_pos h0] at ih
        rw [jm_ct (by rw [h0]; decide), gM_share_116, gM_share_117, nI_1, Int32.add_zero]
        exact ih
      · rw [if_neg h0] at ih
        have hn : ¬ S.2.2 1 k ≤ 0 := by
          rw [jm_q32] at h0
          rw [jm_te32]
          have := hp k hk
          omega
        rw [jm_cf hn, gM_share_117, nI_1]
        exact ih
theorem P_share {A : aS} (hA : okA A) (x y : Int32) : Pair A jD_share jM_share [jm_I x, jm_I y] := by
  have h6 := hA.2.2.1.1
  have go : ∀ v, (∀ σ, cRel σ A → jm_call 60 jD_share [jm_R 0 0, jm_I x, jm_I y] σ = some (some (jm_I v), σ)) → (∀ σ, rRel σ A → jm_call 60 jM_share [jm_R 21 0, jm_I x, jm_I y] σ = some (some (jm_I v), jm_wi σ 21 0 0 0)) → Pair A jD_share jM_share [jm_I x, jm_I y] := fun v h1 h2 => ⟨jm_I v, A, hA, fun σ hc => ⟨σ, h1 σ hc, hc, jm_ag.rf⟩, fun σ hr => ⟨jm_wi σ 21 0 0 0, h2 σ hr, hr.th 0, jm_ag.wi rfl⟩⟩
  by_cases h : 0 ≤ x.toInt ∧ x.toInt < (aSh A).1
  case neg =>
    refine go (-1000001) (fun σ hc => ?_) (fun σ hr => ?_)
    · rw [gD_share_0, c_has 58 σ 0 _ hc.2.2.1.1 h6, if_neg h, Option.bind_some, jm_ps, gD_share_8, jm_ct rfl, gD_share_22]
    · rw [gM_share_0, r_isDisc 57 _ _ (hr.th 0).2.2.1.1 h6, if_neg h, Option.bind_some, jm_ps, gM_share_10, jm_ct rfl, gM_share_25]
  obtain ⟨i, hi, rfl⟩ := jm_nI_of h.1 h.2
  by_cases hy : 0 ≤ y.toInt ∧ y.toInt ≤ (999 : Nat)
  case neg =>
    refine go (-1000001) (fun σ hc => ?_) (fun σ hr => ?_)
    · rw [gD_share_0, c_has 58 σ 0 _ hc.2.2.1.1 h6, if_pos h, Option.bind_some, jm_ps, gD_share_8, jm_cf (by decide), gD_share_22]
      by_cases h0 : y < 0
      · rw [jm_ct h0]
      · rw [jm_cf h0, jm_cf]
        rw [jm_ti32, show (0 : Int32).toInt = 0 from rfl] at h0
        rw [jm_te32, show (999 : Int32).toInt = 999 from rfl]
        omega
    · rw [gM_share_0, r_isDisc 57 _ _ (hr.th 0).2.2.1.1 h6, if_pos h, Option.bind_some, jm_ps, gM_share_10, jm_cf (by decide), r_inK 58 _ _ 999 (n := 999) rfl, if_neg hy, Option.bind_some, jm_ps, gM_share_22, jm_cf (fun h9 => h9 rfl), gM_share_25]
  have hy0 : ¬ y < 0 := by rw [jm_ti32, show (0 : Int32).toInt = 0 from rfl]; omega
  have hy9 : y ≤ 999 := by rw [jm_te32, show (999 : Int32).toInt = 999 from rfl]; omega
  have hin6 : jm_in3 (nI i) 6 = true := jm_in_nI (by omega) (by decide)
  have hcl : (nI i).toNatClampNeg = i := jm_cl (by omega)
  have hsp : ∀ j, j < (aSh A).1 → 0 ≤ ((aSh A).2.2 1 j).toInt ∧ ((aSh A).2.2 1 j).toInt ≤ 40 := fun j hj => (hA.2.2.1.2.2.2 j hj).2.1
  have hge := (sumK_ge hsp h6 (aSh A).1 (Nat.le_refl _)).2 i hi
  have hcS : ∀ σ, cRel σ A → jm_call 60 jD_share [jm_R 0 0, jm_I (nI i), jm_I y] σ = jm_ev 59 (jD_share, 34, [some (jm_R 0 0), some (jm_I (nI i)), some (jm_I y), none, none, none, none], [jm_I (sumK ((aSh A).2.2 1) (aSh A).1)], σ) := fun σ hc => by
    have w : jm_ev 58 (jS_sumOf, 5, [some (jm_R 7 0), some (jm_I 1), some (jm_I (-1)), some (jm_I 0), some (jm_I 0)], [], σ) = _ := c_sumL 58 σ (u := 1) (by omega) h6 hc.2.2.1 (aSh A).1 0 (by omega)
    rw [gD_share_0, c_has 58 σ 0 _ hc.2.2.1.1 h6, if_pos h, Option.bind_some, jm_ps, gD_share_8, jm_cf (by decide), jm_cf hy0, jm_ct hy9, gS_sumOf_0, w, Option.bind_some, jm_ps]
  have hrS : ∀ σ, rRel σ A → jm_call 60 jM_share [jm_R 21 0, jm_I (nI i), jm_I y] σ = jm_ev 59 (jM_share, 43, [some (jm_R 21 0), some (jm_I (nI i)), some (jm_I y), some (jm_I (sumK ((aSh A).2.2 1) (aSh A).1)), none, none, none, none], [jm_I ((aSh A).2.2 1 i)], jm_wi σ 21 0 0 0) := fun σ hr => by
    have hs := (hr.th 0).2.2.1
    have w : jm_ev 58 (jM_together, 4, [some (jm_R 21 0), some (jm_I 2), some (jm_I 0), some (jm_I 0)], [], jm_wi σ 21 0 0 0) = _ := r_togL 57 (jm_wi σ 21 0 0 0) (u := 1) (by omega) h6 (hr.th 0).2.2.1 (aSh A).1 0 (by omega)
    rw [gM_share_0, r_isDisc 57 _ _ (hr.th 0).2.2.1.1 h6, if_pos h, Option.bind_some, jm_ps, gM_share_10, jm_cf (by decide), r_inK 58 _ _ 999 (n := 999) rfl, if_pos hy, Option.bind_some, jm_ps, gM_share_22, jm_ct (by decide), gM_together_0, w, Option.bind_some, jm_ps, gM_share_33, r_of2 58 _ 0 (show i < 6 by omega), (hs.2.2 i hi).2.2.1, Option.bind_some, jm_ps]
  have hcr : ∀ σ, cRel σ A → σ.1 9 1 i = (aSh A).2.2 1 i := fun σ hc => hc.2.2.1.2.2 1 (by omega) i hi
  by_cases h0 : (aSh A).2.2 1 i = 0
  · refine go 0 (fun σ hc => ?_) (fun σ hr => ?_)
    · rw [hcS σ hc, gD_share_34, gD_share_53, hin6, cond_true, hcl, hcr σ hc]
      by_cases ht : sumK ((aSh A).2.2 1) (aSh A).1 = 0
      · rw [jm_ct ht]
      · rw [jm_cf ht, jm_cf (fun h9 => h9 h0)]
    · rw [hrS σ hr, gM_share_43, jm_cf (fun h9 => h9 h0)]
  · have ht : ¬ sumK ((aSh A).2.2 1) (aSh A).1 = 0 := fun h9 => by
      rw [h9, show (0 : Int32).toInt = 0 from rfl] at hge
      have := (hsp i hi).1
      exact h0 (by rw [jm_q32, show (0 : Int32).toInt = 0 from rfl]; omega)
    refine go (shA ((aSh A).2.2 1) (sumK ((aSh A).2.2 1) (aSh A).1) y i (aSh A).1) (fun σ hc => ?_) (fun σ hr => ?_)
    · rw [hcS σ hc, gD_share_34, jm_cf ht, hin6, cond_true, hcl, hcr σ hc, jm_ct h0]
      exact c_shL σ h6 hc.2.2.1 ht hi (aSh A).1 0 (by omega)
    · rw [hrS σ hr, gM_share_43, jm_ct h0]
      exact r_shrL (jm_wi σ 21 0 0 0) h6 (hr.th 0).2.2.1 (fun j hj => (hsp j hj).1) ht hi (aSh A).1 0 (by omega)
