-- METHODS: broken, the reference
theorem rS_eq {R : Nat → Int32} {T T' : sS} (h : rS R T) (h1 : T'.1 = T.1) (h2 : T'.2.1 = T.2.1) (h3 : ∀ v, v < 4 → ∀ d, d < T.1 → T'.2.2 v d = T.2.2 v d) : rS R T' := by
  refine ⟨by rw [h1]; exact h.1, by rw [h2]; exact h.2.1, fun d hd => ?_⟩
  rw [h1] at hd
  obtain ⟨a, b, c, g⟩ := h.2.2 d hd
  rw [h3 3 (by omega) d hd, h3 0 (by omega) d hd, h3 1 (by omega) d hd, h3 2 (by omega) d hd]
  exact ⟨a, b, c, g⟩
theorem bkT_K {S : sS} (h : okK S) (s m : Nat) : okK (bkT S s m) := ⟨h.1, fun d hd => by
  show (if 3 = 1 ∧ d < m ∧ Nat.testBit s d = true then _ else S.2.2 3 d).toInt ≤ 5
  rw [if_neg (fun h9 => absurd h9.1 (by decide))]; exact h.2 d hd⟩
theorem bkT_0 {R : Nat → Int32} {S : sS} (h : rS R S) (s : Nat) : rS R (bkT S s 0) := rS_eq h rfl rfl (fun v _ d _ => if_neg (fun h9 => absurd h9.2.1 (Nat.not_lt_zero _)))
theorem bkT_s {R : Nat → Int32} {S : sS} {s i : Nat} {x : Int32} (h : rS R (bkT S s i)) (hx : x = if Nat.testBit s i then 0 else S.2.2 1 i) : rS (upd R (2 + 4 * i + 2) x) (bkT S s (i + 1)) := by
  refine rS_eq (rS_put h (u := 1) (i := i) (by omega) x) rfl rfl (fun v hv d hd => ?_)
  show (if v = 1 ∧ d < i + 1 ∧ Nat.testBit s d = true then 0 else S.2.2 v d) = if v = 1 ∧ d = i then x else if v = 1 ∧ d < i ∧ Nat.testBit s d = true then 0 else S.2.2 v d
  by_cases hvd : v = 1 ∧ d = i
  · rw [if_pos hvd, hx, hvd.1, hvd.2]
    by_cases hb : Nat.testBit s i = true
    · rw [if_pos hb, if_pos ⟨rfl, by omega, hb⟩]
    · rw [if_neg hb, if_neg (fun h9 => hb h9.2.2)]
  · rw [if_neg hvd]
    by_cases h9 : v = 1 ∧ d < i ∧ Nat.testBit s d = true
    · rw [if_pos h9, if_pos ⟨h9.1, by omega, h9.2.2⟩]
    · rw [if_neg h9, if_neg (fun h8 => h9 ⟨h8.1, by have : ¬ d = i := fun h7 => hvd ⟨h8.1, h7⟩; omega, h8.2.2⟩)]
abbrev bF (v p m : Nat) (z : Int32) (l5 l7 : Int64) (o9 o10 o12 : Option jm_V) : List (Option jm_V) := [some (jm_R 21 0), some (jm_I (nI v)), some (jm_I (nI p)), some (jm_I z), some (jm_I (nI m)), some (jm_L l5), none, some (jm_L l7), none, o9, o10, none, o12, none, none]
theorem nL_10 {p : Nat} (hp : p ≤ 10) : (10 : Int64) - nL p = nL (10 - p) := by
  refine Int64.toInt_inj.mp ?_
  rw [Int64.toInt_sub, nL_toInt (by omega), nL_toInt (by omega), show (10 : Int64).toInt = 10 from rfl]
  have h : (10 : Int) - (p : Int) = ((10 - p : Nat) : Int) := by omega
  rw [h]
  exact bm64 (by omega) (by omega)
theorem r_brS {s v p m i : Nat} {S : sS} (hi : i < m) (hm : m ≤ 5) (hs : s < 32) (hp : p ≤ 10) {l4 : Nat} (z : Int32) (l5 l7 : Int64) (σ : jm_S) (hk : σ.1 25 2 (2 + 4 * i + 2) = S.2.2 1 i) : jm_ev 59 (jM_broken, 92, bF v p m z l5 l7 (some (jm_I (nI s))) (some (jm_L (nL l4))) (some (jm_I (nI i))), [], σ) = jm_ev 59 (jM_broken, 92, bF v p m z l5 l7 (some (jm_I (nI s))) (some (jm_L (nL (l4 * wy p s i)))) (some (jm_I (nI (i + 1)))), [], jm_wi σ 25 2 (2 + 4 * i + 2) (if Nat.testBit s i then 0 else S.2.2 1 i)) := by
  have hb := bit_ok s hs i (by omega)
  unfold wy
  rw [gM_broken_92, jm_cf (nI_ge hi (by omega)), r_has 58, Option.bind_some, jm_ps, gM_broken_108, gM_broken_122, gM_broken_122, r_has 58, Option.bind_some, jm_ps, Option.bind_some, jm_ps, gM_broken_144, gM_broken_144, ixK, jm_in_nI (show 2 + 4 * i + 2 < 26 by omega) (by decide), cond_true, cond_true, jm_cl (show 2 + 4 * i + 2 < 2 ^ 31 by omega), hk, gM_broken_164, gM_broken_164, gM_broken_164, gM_broken_164, jm_in_nI (show 2 + 4 * i + 2 < 26 by omega) (by decide), cond_true, cond_true, cond_true, cond_true, jm_cl (show 2 + 4 * i + 2 < 2 ^ 31 by omega), nI_1, nL_i (show p < 2 ^ 31 by omega), nL_10 hp, nL_mul, nL_mul]
  by_cases ht : Nat.testBit s i = true
  · rw [if_pos (hb.mpr ht), jm_cf (show ¬ (1 : Int32) = 0 by decide), jm_cf (show ¬ (1 : Int32) = 0 by decide), if_pos ht, if_pos ht]
  · rw [if_neg (show ¬ ((nI s >>> (nI i &&& 31)) &&& 1 = 1) from fun h9 => ht (hb.mp h9)), jm_ct (show (0 : Int32) = 0 from rfl), jm_ct (show (0 : Int32) = 0 from rfl), if_neg ht, if_neg ht]
theorem r_brI (σ0 : jm_S) {S : sS} (hK : okK S) (h1 : 1 ≤ S.1) (hS0 : rS (σ0.1 25 0) S) {s v p : Nat} (hs : s < 32) (hv : v ≤ 6) (hp : p ≤ 10) (z : Int32) (a b : Nat) : ∀ (f i : Nat) (σ : jm_S), i + f = S.1 - 1 → jm_ag Crs σ0 σ → f19 σ0 σ → rS (σ.1 25 2) (bkT S s i) → ∃ (σ' : jm_S) (o10 o12 : Option jm_V), jm_ev 59 (jM_broken, 92, bF v p (S.1 - 1) z (nL a) (nL b) (some (jm_I (nI s))) (some (jm_L (nL (prodTo (wy p s) i)))) (some (jm_I (nI i))), [], σ) = jm_ev 59 (jM_broken, 73, bF v p (S.1 - 1) z (nL (a + abC S v p s)) (nL (b + wS p (S.1 - 1) s)) (some (jm_I (nI (s + 1)))) o10 o12, [], σ') ∧ jm_ag Crs σ0 σ' ∧ f19 σ0 σ' := by
  intro f
  induction f with
  | zero =>
    intro i σ h ha hf hI
    have hi : i = S.1 - 1 := by omega
    subst hi
    have h6 := hK.1
    have hmk : σ.1 25 0 1 = S.2.1 := by rw [(ha 25 0 rfl).1]; exact hS0.2.1
    obtain ⟨σ2, g1, g2, g3, g4⟩ := r_belowOf 54 σ 2 (bkT_K hK s (S.1 - 1)) hI S.2.1
    refine ⟨σ2, some (jm_L (nL (wS p (S.1 - 1) s))), some (jm_I (nI ((BS (bkT S s (S.1 - 1)) S.2.1).getD 0))), ?_, ha.tr (C28_rs g4), f19.tr hf g3⟩
    rw [gM_broken_92, jm_ct (nI_le (Nat.le_refl _) (by omega)), hmk, g1, Option.bind_some, jm_ps, gM_broken_192, g2, gM_broken_214, gM_broken_215, gM_broken_215, nI_1, nL_add, nL_add, show (0 : Int64) = nL 0 from rfl, nL_add]
    unfold abC
    have hle := bk_le h6 s (S.1 - 1)
    cases hB : BS (bkT S s (S.1 - 1)) S.2.1 with
    | none =>
      rw [jm_ct (show ¬ bI (none : Option Nat).isNone = 0 by decide), if_neg (fun h9 => by cases h9)]
      rfl
    | some c =>
      have hc := hle c hB
      rw [jm_cf (show ¬ ¬ bI (some c).isNone = 0 from fun h9 => h9 rfl)]
      show cond (decide (¬ nI c = nI v)) _ _ = _
      by_cases hcv : c = v
      · subst hcv
        rw [jm_cf (fun h9 => h9 rfl), if_pos rfl]
        rfl
      · rw [jm_ct (show ¬ nI c = nI v from fun h9 => hcv ((nI_eq (by omega) (by omega)).mp h9)), if_neg (fun h9 => hcv (by cases h9; rfl))]
        rfl
  | succ f ih =>
    intro i σ h ha hf hI
    have h6 := hK.1
    have hk : σ.1 25 2 (2 + 4 * i + 2) = S.2.2 1 i := (hI.2.2 i (by show i < S.1; omega)).2.2.1.trans (if_neg (fun h9 => absurd h9.2.1 (Nat.lt_irrefl _)))
    rw [r_brS (show i < S.1 - 1 by omega) (by omega) hs hp z (nL a) (nL b) σ hk, ← prodTo_s]
    exact ih (i + 1) _ (by omega) (ha.tr (jm_ag.wi rfl)) hf (by rw [jm_w_s]; exact bkT_s hI rfl)
theorem r_eu0 (σ : jm_S) (x1 x2 z x4 : Int32) {a b g : Nat} (hg0 : 0 < g) (hg : g < 2 ^ 63) (o13 : Option jm_V) : jm_ev 59 (jM_broken, 232, [some (jm_R 21 0), some (jm_I x1), some (jm_I x2), some (jm_I z), some (jm_I x4), some (jm_L (nL a)), none, some (jm_L (nL b)), none, some (jm_L (nL g)), none, some (jm_L (nL 0)), none, o13, none], [], σ) = some (some (jm_L (if z = 0 then nL a / nL g else nL b / nL g)), σ) := by
  rw [gM_broken_232, jm_ct (show lg_cmp (nL 0) 0 = 0 from jm_lg_eq.mpr rfl), gM_broken_268, gM_broken_268, jm_ct (nL_ne hg0 hg), jm_ct (nL_ne hg0 hg)]
  by_cases hz : z = 0
  · rw [jm_cf (fun h9 => h9 hz), if_pos hz]
  · rw [jm_ct hz, if_neg hz]
theorem r_eu (σ : jm_S) (x1 x2 z x4 : Int32) {a b : Nat} : ∀ (f x y : Nat) (o13 : Option jm_V), y ≤ f → 0 < Nat.gcd x y → x < 2 ^ 63 → y < 2 ^ 63 → jm_ev 59 (jM_broken, 232, [some (jm_R 21 0), some (jm_I x1), some (jm_I x2), some (jm_I z), some (jm_I x4), some (jm_L (nL a)), none, some (jm_L (nL b)), none, some (jm_L (nL x)), none, some (jm_L (nL y)), none, o13, none], [], σ) = some (some (jm_L (if z = 0 then nL a / nL (Nat.gcd x y) else nL b / nL (Nat.gcd x y))), σ) := by
  intro f
  induction f with
  | zero =>
    intro x y o13 h hg hx hy
    have : y = 0 := by omega
    subst this
    rw [Nat.gcd_zero_right] at hg ⊢
    exact r_eu0 σ x1 x2 z x4 hg hx o13
  | succ f ih =>
    intro x y o13 h hg hx hy
    by_cases h0 : y = 0
    · subst h0
      rw [Nat.gcd_zero_right] at hg ⊢
      exact r_eu0 σ x1 x2 z x4 hg hx o13
    · have hyp : 0 < y := by omega
      have hr := Nat.mod_lt x hyp
      rw [gM_broken_232, jm_cf (lg0 hyp hy), jm_ct (nL_ne hyp hy), nL_rem hx hy hyp, ih y (x % y) _ (by omega) (by rw [eu_gcd]; exact hg) hy (by omega), eu_gcd]
theorem r_brL (σ0 : jm_S) {S : sS} (hK : okK S) (h1 : 1 ≤ S.1) (hS0 : rS (σ0.1 25 0) S) {v p : Nat} (hv : v ≤ 6) (hp : p ≤ 10) (z : Int32) : ∀ (f s : Nat) (σ : jm_S) (o10 o12 : Option jm_V), s + f = 2 ^ (S.1 - 1) → jm_ag Crs σ0 σ → f19 σ0 σ → ∃ σ', jm_ev 59 (jM_broken, 73, bF v p (S.1 - 1) z (nL (sumTo (abC S v p) s)) (nL (sumTo (wS p (S.1 - 1)) s)) (some (jm_I (nI s))) o10 o12, [], σ) = some (some (jm_L (brV z (sumTo (abC S v p) (2 ^ (S.1 - 1))) (10 ^ (S.1 - 1)))), σ') ∧ jm_ag Crs σ0 σ' ∧ f19 σ0 σ' := by
  have h6 := hK.1
  have h32 := two5 (S.1 - 1) (by omega)
  have h10 := ten5 (S.1 - 1) (by omega)
  have hab := ab_le (v := v) (p := p) h6 h1 hp
  intro f
  induction f with
  | zero =>
    intro s σ o10 o12 h ha hf
    have hs : s = 2 ^ (S.1 - 1) := by omega
    subst hs
    refine ⟨σ, ?_, ha, hf⟩
    rw [gM_broken_73, shl6 (show S.1 - 1 ≤ 6 by omega), jm_ct (nI_le (Nat.le_refl _) (by omega)), ways_sum (S.1 - 1) (by omega) p (by omega), r_eu σ _ _ z _ (10 ^ (S.1 - 1)) _ _ none (Nat.le_refl _) (Nat.gcd_pos_of_pos_right _ h10.1) (by omega) (by omega)]
    unfold brV
    rw [Nat.gcd_comm]
  | succ f ih =>
    intro s σ o10 o12 h ha hf
    have hS : rS (σ.1 25 0) S := by rw [(ha 25 0 rfl).1]; exact hS0
    obtain ⟨σ1, e1, e2, e3⟩ := r_layThen 58 σ h6 hS
    obtain ⟨σ2, p10, p12, g1, g2, g3⟩ := r_brI σ0 hK h1 hS0 (s := s) (v := v) (p := p) (by omega) hv hp z (sumTo (abC S v p) s) (sumTo (wS p (S.1 - 1)) s) (S.1 - 1) 0 σ1 (by omega) (ha.tr (Cl2_rs e2)) (fun j hj => by rw [(e2 21 0 rfl).1]; exact hf j hj) (bkT_0 e3 s)
    obtain ⟨σ', i1, i2, i3⟩ := ih (s + 1) σ2 p10 p12 (by omega) g2 g3
    refine ⟨σ', ?_, i2, i3⟩
    rw [gM_broken_73, shl6 (show S.1 - 1 ≤ 6 by omega), jm_cf (nI_ge (show s < 2 ^ (S.1 - 1) by omega) (by omega)), e1, Option.bind_some, jm_pn, gM_broken_89]
    exact g1.trans i1
theorem P_broken {A : aS} (hA : okA A) (x y z : Int32) : Pair A jD_broken jM_broken [jm_I x, jm_I y, jm_I z] := by
  have h6 := hA.2.2.1.1
  have go : ∀ v, (∀ σ, cRel σ A → jm_call 60 jD_broken [jm_R 0 0, jm_I x, jm_I y, jm_I z] σ = some (some (jm_L v), σ)) → (∀ σ, rRel σ A → jm_call 60 jM_broken [jm_R 21 0, jm_I x, jm_I y, jm_I z] σ = some (some (jm_L v), jm_wi σ 21 0 0 0)) → Pair A jD_broken jM_broken [jm_I x, jm_I y, jm_I z] := fun v h1 h2 => ⟨jm_L v, A, hA, fun σ hc => ⟨σ, h1 σ hc, hc, jm_ag.rf⟩, fun σ hr => ⟨jm_wi σ 21 0 0 0, h2 σ hr, hr.th 0, jm_ag.wi rfl⟩⟩
  have z0 : (0 : Int32).toInt = 0 := rfl
  have z1 : (1 : Int32).toInt = 1 := rfl
  have z6 : (6 : Int32).toInt = 6 := rfl
  have z10 : (10 : Int32).toInt = 10 := rfl
  by_cases h0 : (aSh A).1 = 0
  · refine go (-1000002) (fun σ hc => ?_) (fun σ hr => ?_)
    · rw [gD_broken_0, hc.2.2.1.1, h0, jm_cf (fun h9 => h9 rfl)]
    · rw [gM_broken_0, r_isThere 58 _ (hr.th 0).2.2.1.1 h6, if_pos h0, Option.bind_some, jm_ps, gM_broken_9, jm_cf (fun h9 => h9 rfl)]
  have hne : ¬ nI (aSh A).1 = 0 := nI_ne0 (by omega) (by omega)
  by_cases hx : 0 ≤ x.toInt ∧ x.toInt ≤ (6 : Nat)
  case neg =>
    refine go (-1000001) (fun σ hc => ?_) (fun σ hr => ?_)
    · rw [gD_broken_0, hc.2.2.1.1, jm_ct hne, gD_broken_43]
      by_cases a : x < 0
      · rw [jm_ct a]
      · rw [jm_cf a, jm_ct]
        rw [jm_ti32] at a ⊢
        omega
    · rw [gM_broken_0, r_isThere 58 _ (hr.th 0).2.2.1.1 h6, if_neg h0, Option.bind_some, jm_ps, gM_broken_9, jm_ct (by decide), r_inK 58 _ _ 6 (n := 6) rfl, if_neg hx, Option.bind_some, jm_ps, gM_broken_25, jm_ct rfl, gM_broken_50]
  have hx0 : ¬ x < 0 := by rw [jm_ti32]; omega
  have hx6 : ¬ (6 : Int32) < x := by rw [jm_ti32]; omega
  by_cases hy : 0 ≤ y.toInt ∧ y.toInt ≤ (10 : Nat)
  case neg =>
    refine go (-1000001) (fun σ hc => ?_) (fun σ hr => ?_)
    · rw [gD_broken_0, hc.2.2.1.1, jm_ct hne, jm_cf hx0, jm_cf hx6, gD_broken_43]
      by_cases a : y < 0
      · rw [jm_ct a]
      · rw [jm_cf a, jm_ct]
        rw [jm_ti32] at a ⊢
        omega
    · rw [gM_broken_0, r_isThere 58 _ (hr.th 0).2.2.1.1 h6, if_neg h0, Option.bind_some, jm_ps, gM_broken_9, jm_ct (by decide), r_inK 58 _ _ 6 (n := 6) rfl, if_pos hx, Option.bind_some, jm_ps, gM_broken_25, jm_cf (by decide), r_inK 58 _ _ 10 (n := 10) rfl, if_neg hy, Option.bind_some, jm_ps, gM_broken_37, jm_ct rfl, gM_broken_50]
  have hy0 : ¬ y < 0 := by rw [jm_ti32]; omega
  have hy9 : ¬ (10 : Int32) < y := by rw [jm_ti32]; omega
  by_cases hz : 0 ≤ z.toInt ∧ z.toInt ≤ (1 : Nat)
  case neg =>
    refine go (-1000001) (fun σ hc => ?_) (fun σ hr => ?_)
    · rw [gD_broken_0, hc.2.2.1.1, jm_ct hne, jm_cf hx0, jm_cf hx6, jm_cf hy0, jm_cf hy9, gD_broken_43]
      by_cases a : z < 0
      · rw [jm_ct a]
      · rw [jm_cf a, jm_cf]
        rw [jm_ti32] at a
        rw [jm_te32]
        omega
    · rw [gM_broken_0, r_isThere 58 _ (hr.th 0).2.2.1.1 h6, if_neg h0, Option.bind_some, jm_ps, gM_broken_9, jm_ct (by decide), r_inK 58 _ _ 6 (n := 6) rfl, if_pos hx, Option.bind_some, jm_ps, gM_broken_25, jm_cf (by decide), r_inK 58 _ _ 10 (n := 10) rfl, if_pos hy, Option.bind_some, jm_ps, gM_broken_37, jm_cf (by decide), r_inK 58 _ _ 1 (n := 1) rfl, if_neg hz, Option.bind_some, jm_ps, gM_broken_47, jm_cf (fun h9 => h9 rfl), gM_broken_50]
  have hz0 : ¬ z < 0 := by rw [jm_ti32]; omega
  have hz1 : z ≤ 1 := by rw [jm_te32]; omega
  obtain ⟨v, hv, rfl⟩ := jm_nI_of (x := x) (n := 7) hx.1 (by omega)
  obtain ⟨p, hp, rfl⟩ := jm_nI_of (x := y) (n := 11) hy.1 (by omega)
  have h1 : 1 ≤ (aSh A).1 := by omega
  have hmm : nI (aSh A).1 - 1 = nI ((aSh A).1 - 1) := by
    obtain ⟨m, hm⟩ : ∃ m, (aSh A).1 = m + 1 := ⟨(aSh A).1 - 1, by omega⟩
    rw [hm, nI_p1, Nat.add_sub_cancel]
  refine ⟨jm_L (brV z (sumTo (abC (aSh A) v p) (2 ^ ((aSh A).1 - 1))) (10 ^ ((aSh A).1 - 1))), A, hA, fun σ hc => ?_, fun σ hr => ?_⟩
  · obtain ⟨σ1, e1, e2, e3⟩ := c_takeFrom 58 σ (r0 := 1) (r1 := 0) (by omega) h6 hc.2.2.1
    have m1 : jm_ag Csc σ σ1 := e2.mo (fun g r h8 => by
      simp only [Csc, Bool.or_eq_false_iff] at h8
      simp only [Ctf, Bool.or_eq_false_iff]
      exact ⟨h8.1.2, h8.2⟩)
    have hI : bkI σ1 (aSh A) 0 0 := ⟨e3.1, e3.2.1, fun w hw d hd h9 => (e3.2.2 w hw d hd).trans (if_neg (fun h8 => h9 ⟨h8.1, Nat.zero_le _, h8.2.1⟩)).symm⟩
    obtain ⟨σ', g1, g2⟩ := c_brL σ h6 h1 hc.2.2.1 (v := v) (p := p) (by omega) (by omega) z (2 ^ ((aSh A).1 - 1)) 0 σ1 (by omega) m1 hI
    refine ⟨σ', ?_, hc.sc g2, Csc_cl g2⟩
    rw [gD_broken_0, hc.2.2.1.1, jm_ct hne, jm_cf hx0, jm_cf hx6, jm_cf hy0, jm_cf hy9, jm_cf hz0, jm_ct hz1, hmm]
    refine (c_67 σ (nI v) (nI p) z 0 ((aSh A).1 - 1) (by omega) ((aSh A).1 - 1) 0 (by omega)).trans ?_
    rw [gD_broken_67, jm_ct (nI_le (Nat.le_refl _) (by omega)), e1, Option.bind_some, jm_pn, gD_broken_99]
    exact g1
  · have hr' := hr.th 0
    obtain ⟨σ', g1, g2, g3⟩ := r_brL (jm_wi σ 21 0 0 0) hA.2.2.1.K h1 hr'.2.2.1 (v := v) (p := p) (by omega) (by omega) z (2 ^ ((aSh A).1 - 1)) 0 (jm_wi σ 21 0 0 0) none none (by omega) jm_ag.rf f19.rf
    refine ⟨σ', ?_, hr'.sc g2 g3.live, (jm_ag.wi rfl).tr (Crs_rf g2)⟩
    rw [gM_broken_0, r_isThere 58 _ hr'.2.2.1.1 h6, if_neg h0, Option.bind_some, jm_ps, gM_broken_9, jm_ct (by decide), r_inK 58 _ _ 6 (n := 6) rfl, if_pos hx, Option.bind_some, jm_ps, gM_broken_25, jm_cf (by decide), r_inK 58 _ _ 10 (n := 10) rfl, if_pos hy, Option.bind_some, jm_ps, gM_broken_37, jm_cf (by decide), r_inK 58 _ _ 1 (n := 1) rfl, if_pos hz, Option.bind_some, jm_ps, gM_broken_47, jm_ct (by decide), hr'.2.2.1.1, hmm]
    exact g1
