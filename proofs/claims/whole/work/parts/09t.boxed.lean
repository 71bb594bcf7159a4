-- METHODS: who: are the first boxes those of a row
def vw (o : Option Nat) : Int32 := match o with
  | none => -1
  | some l => nI l
def fit1 (o : Option (Option Nat)) (x : Int32) : Bool := match o with
  | none => false
  | some b => decide (vw b = x)
def bxm (B : Int32 → Option Nat) (g : Nat → Int32) : Nat → Bool
  | 0 => true
  | k + 1 => bxm B g k && fit1 (boxS B k) (g k)
theorem bxm_s (B : Int32 → Option Nat) (g : Nat → Int32) (k : Nat) : bxm B g (k + 1) = (bxm B g k && fit1 (boxS B k) (g k)) := rfl
theorem bxm_f {B : Int32 → Option Nat} {g : Nat → Int32} {k : Nat} (h : bxm B g k = false) : ∀ m, k ≤ m → bxm B g m = false
  | 0, hm => by have : k = 0 := by omega
                subst this; exact h
  | m + 1, hm => by
    by_cases hk : k = m + 1
    · subst hk; exact h
    · rw [bxm_s, bxm_f h m (by omega)]; rfl
theorem bxm_o {B : Int32 → Option Nat} {g : Nat → Int32} : ∀ m, aO B m = true → bxm B g m = false
  | 0, h => by cases h
  | m + 1, h => by
    have h : (aO B m || (boxS B m).isNone) = true := h
    rw [bxm_s]
    cases ha : aO B m with
    | true => rw [bxm_o m ha]; rfl
    | false =>
      rw [ha] at h
      have h : (boxS B m).isNone = true := h
      cases hb : boxS B m with
      | none => rw [show fit1 none (g m) = false from rfl, Bool.and_false]
      | some o => rw [hb] at h; cases h
theorem nI_big {l : Nat} (h : l ≤ 200) : ¬ nI l = -1000016 ∧ ¬ nI l = -1000000 := by
  have h0 := nI_toInt (n := l) (by omega)
  refine ⟨fun h9 => ?_, fun h9 => ?_⟩
  · rw [h9, show (-1000016 : Int32).toInt = -1000016 from rfl] at h0; omega
  · rw [h9, show (-1000000 : Int32).toInt = -1000000 from rfl] at h0; omega
theorem c_tbL (e : Nat) (σ0 : jm_S) {n : Nat} {w s t : Nat → Int64} {r a m : Nat} (h6 : n ≤ 6) (hr : r < 8) (ham : a + m ≤ 40) (hm6 : m ≤ 6) : ∀ (f k : Nat) (σ : jm_S) (o5 o6 : Option jm_V), k + f = m → sP σ n w s t → jm_ag C1418 σ0 σ → bxm (blS n w s t) (fun k => σ0.1 4 r (a + k)) k = true → ∃ σ', jm_ev (e + 4) (jD_triedBoxesAre, 14, [some (jm_R 0 0), some (jm_I (nI r)), some (jm_I (nI a)), some (jm_I (nI m)), some (jm_I (nI k)), o5, o6], [], σ) = some (some (jm_I (bI (bxm (blS n w s t) (fun k => σ0.1 4 r (a + k)) m))), σ') ∧ jm_ag C1418 σ0 σ'
  | 0, k, σ, o5, o6, h, hP, ha, hb => by
    have : k = m := by omega
    subst this
    refine ⟨σ, ?_, ha⟩
    rw [gD_triedBoxesAre_14, jm_ct (nI_le (Nat.le_refl _) (by omega)), hb]
    rfl
  | f + 1, k, σ, o5, o6, h, hP, ha, hb => by
    obtain ⟨σ1, e1, e2, e3⟩ := c_boxOf e σ h6 hP (k := k) (by omega)
    have ha1 : jm_ag C1418 σ0 σ1 := ha.tr (C18_1418 e3)
    have h4 : σ1.1 4 r = σ0.1 4 r := (ha1 4 r rfl).1
    rw [gD_triedBoxesAre_14, jm_cf (nI_ge (show k < m by omega) (by omega)), e1, Option.bind_some, jm_ps, gD_triedBoxesAre_29]
    have h53 : ∀ (b : Option Nat) (x5 : Int32), boxS (blS n w s t) k = some b → ∃ σ', jm_ev (e + 4) (jD_triedBoxesAre, 53, [some (jm_R 0 0), some (jm_I (nI r)), some (jm_I (nI a)), some (jm_I (nI m)), some (jm_I (nI k)), some (jm_I x5), o6], [jm_I (vw b)], σ1) = some (some (jm_I (bI (bxm (blS n w s t) (fun k => σ0.1 4 r (a + k)) m))), σ') ∧ jm_ag C1418 σ0 σ' := by
      intro b x5 hbx
      rw [gD_triedBoxesAre_53, jm_in_nI hr (by decide), cond_true, nI_add, jm_in_nI (show a + k < 40 by omega) (by decide), cond_true, jm_cl (by omega), jm_cl (by omega), h4]
      by_cases hv : vw b = σ0.1 4 r (a + k)
      · have hn : bxm (blS n w s t) (fun k => σ0.1 4 r (a + k)) (k + 1) = true := by
          rw [bxm_s, hb, hbx]
          exact decide_eq_true hv
        obtain ⟨σ', g1, g2⟩ := c_tbL e σ0 h6 hr ham hm6 f (k + 1) σ1 (some (jm_I x5)) (some (jm_I (vw b))) (by omega) e2 ha1 hn
        refine ⟨σ', ?_, g2⟩
        rw [jm_ct hv, nI_1]
        exact g1
      · have hn : bxm (blS n w s t) (fun k => σ0.1 4 r (a + k)) (k + 1) = false := by
          rw [bxm_s, hb, hbx]
          exact decide_eq_false hv
        refine ⟨σ1, ?_, ha1⟩
        rw [jm_cf hv, bxm_f hn m (by omega)]
        rfl
    cases hbx : boxS (blS n w s t) k with
    | none =>
      have hn : bxm (blS n w s t) (fun k => σ0.1 4 r (a + k)) (k + 1) = false := by
        rw [bxm_s, hbx, show fit1 none (σ0.1 4 r (a + k)) = false from rfl, Bool.and_false]
      refine ⟨σ1, ?_, ha1⟩
      rw [jm_cf (fun h9 => h9 rfl), bxm_f hn m (by omega)]
      rfl
    | some b =>
      cases b with
      | none =>
        obtain ⟨σ', g1, g2⟩ := h53 none (-1000000) hbx
        refine ⟨σ', ?_, g2⟩
        rw [jm_ct (show ¬ xR (some none) = -1000016 by decide), jm_cf (fun h9 => h9 rfl)]
        exact g1
      | some l =>
        have hl := nI_big (boxS_le hbx)
        obtain ⟨σ', g1, g2⟩ := h53 (some l) (nI l) hbx
        refine ⟨σ', ?_, g2⟩
        rw [jm_ct (show ¬ xR (some (some l)) = -1000016 from hl.1), jm_ct (show ¬ xR (some (some l)) = -1000000 from hl.2)]
        exact g1
theorem c_tba (e : Nat) (σ : jm_S) {T : sS} {r a m : Nat} (h6 : T.1 ≤ 6) (hs : cS σ 1 T) (hr : r < 8) (ham : a + m ≤ 40) (hm6 : m ≤ 6) : ∃ σ', jm_call (e + 5) jD_triedBoxesAre [jm_R 0 0, jm_I (nI r), jm_I (nI a), jm_I (nI m)] σ = some (some (jm_I (bI (bxm (BS T) (fun k => σ.1 4 r (a + k)) m))), σ') ∧ jm_ag C1418 σ σ' := by
  obtain ⟨σ1, e1, e2, e3⟩ := c_measure (e + 1) σ 1 h6 hs
  obtain ⟨σ2, f1, f2⟩ := c_tbL e σ1 h6 hr ham hm6 m 0 σ1 none none (by omega) e2 jm_ag.rf rfl
  refine ⟨σ2, ?_, (C17_1418 e3).tr f2⟩
  rw [gD_triedBoxesAre_0, e1, Option.bind_some, jm_pn, gD_triedBoxesAre_11]
  refine Eq.trans f1 ?_
  rw [(e3 4 r rfl).1]
  rfl
theorem r_ibL (σ : jm_S) (e : Nat) {B : Int32 → Option Nat} {b m : Nat} (hb : b + m ≤ 320) (hm6 : m ≤ 6) (h29 : ∀ j, j < m → σ.1 29 0 j = xN (boxS B j)) (hO : aO B m = false) : ∀ (f k : Nat), k + f = m → jm_ev e (jM_isBoxedSo, 25, [some (jm_R 21 0), some (jm_I (nI b)), some (jm_I (nI m)), some (jm_I (bI (bxm B (fun k => σ.1 24 0 (b + k)) k))), some (jm_I (nI k))], [], σ) = some (some (jm_I (bI (bxm B (fun k => σ.1 24 0 (b + k)) m))), σ)
  | 0, k, h => by
    have : k = m := by omega
    subst this
    rw [gM_isBoxedSo_25, jm_ct (nI_le (Nat.le_refl _) (by omega)), gM_isBoxedSo_82, bI_01, cond_true]
  | f + 1, k, h => by
    have ih := r_ibL σ e hb hm6 h29 hO f (k + 1) (by omega)
    rw [gM_isBoxedSo_25, jm_cf (nI_ge (show k < m by omega) (by omega)), gM_isBoxedSo_82, bI_01, cond_true]
    cases hc : bxm B (fun k => σ.1 24 0 (b + k)) k with
    | false =>
      rw [jm_ct (show bI false = 0 from rfl), bxm_f hc m (by omega)]
    | true =>
      have hso := aO_at hO k (by omega)
      rw [jm_cf (show ¬ bI true = 0 by decide), jm_in_nI (show k < 6 by omega) (by decide), cond_true, cond_true, jm_cl (by omega), h29 k (by omega)]
      have h58 : ∀ (o : Option Nat), boxS B k = some o → jm_ev e (jM_isBoxedSo, 58, [some (jm_R 21 0), some (jm_I (nI b)), some (jm_I (nI m)), some (jm_I (bI true)), some (jm_I (nI k))], [jm_I (vw o)], σ) = some (some (jm_I (bI (bxm B (fun k => σ.1 24 0 (b + k)) m))), σ) := by
        intro o ho
        rw [gM_isBoxedSo_58, nI_add, jm_in_nI (show b + k < 320 by omega) (by decide), cond_true, jm_cl (by omega), gM_isBoxedSo_75, gM_isBoxedSo_75, nI_1]
        by_cases hv : vw o = σ.1 24 0 (b + k)
        · rw [jm_cf (fun h9 => h9 hv)]
          rw [bxm_s, hc, ho, show fit1 (some o) (σ.1 24 0 (b + k)) = true from decide_eq_true hv] at ih
          exact ih
        · rw [jm_ct hv]
          rw [bxm_s, hc, ho, show fit1 (some o) (σ.1 24 0 (b + k)) = false from decide_eq_false hv] at ih
          exact ih
      cases hbx : boxS B k with
      | none => rw [hbx] at hso; cases hso
      | some o =>
        cases o with
        | none =>
          rw [jm_cf (fun h9 => h9 rfl)]
          exact h58 none hbx
        | some l =>
          have hl := nI_big (boxS_le hbx)
          rw [jm_ct (show ¬ xN (some (some l)) = -1000000 from hl.2)]
          exact h58 (some l) hbx
theorem r_ibs (e : Nat) (σ : jm_S) {T : sS} {b m : Nat} (hK : okK T) (hs : rS (σ.1 25 2) T) (hb : b + m ≤ 320) (hm1 : 1 ≤ m) (hm6 : m ≤ 6) : ∃ σ', jm_call (e + 8) jM_isBoxedSo [jm_R 21 0, jm_I (nI b), jm_I (nI m)] σ = some (some (jm_I (bI (bxm (BS T) (fun k => σ.1 24 0 (b + k)) m))), σ') ∧ f19 σ σ' ∧ jm_ag C29 σ σ' := by
  obtain ⟨σ1, e1, e2, e3, e4, e5⟩ := r_layBoxes e σ 2 hK hs hm6
  refine ⟨σ1, ?_, e3, e4⟩
  rw [gM_isBoxedSo_0, e1, Option.bind_some, jm_pn, gM_isBoxedSo_9, e2, gM_isBoxedSo_21, gM_isBoxedSo_21, ← (e4 24 0 rfl).1]
  cases hO : aO (BS T) m with
  | true =>
    rw [jm_ct (show ¬ bI true = 0 by decide), gM_isBoxedSo_25, jm_cf (show ¬ nI m ≤ 0 from nI_nle (by omega) (by omega)), jm_ct rfl, gM_isBoxedSo_82, bxm_o m hO]
    rfl
  | false =>
    rw [jm_cf (fun h9 => h9 rfl)]
    exact r_ibL σ1 (e + 7) hb hm6 (e5 hO) hO m 0 (by omega)
