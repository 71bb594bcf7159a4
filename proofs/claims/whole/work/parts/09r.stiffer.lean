-- METHODS: stiffer
abbrev C1418 : Nat → Nat → Bool := fun k _ => k == 14 || k == 15 || k == 16 || k == 17 || k == 18
theorem C17_1418 {σ σ' : jm_S} (h : jm_ag C17 σ σ') : jm_ag C1418 σ σ' := h.mo (fun k r h9 => by simp only [C1418, C17, Bool.or_eq_false_iff] at h9 ⊢; exact h9.1)
theorem C18_1418 {σ σ' : jm_S} (h : jm_ag C18 σ σ') : jm_ag C1418 σ σ' := h.mo (fun k r h9 => by simp only [C1418, C18, Bool.or_eq_false_iff] at h9 ⊢; exact ⟨h9.1.1.1.1, h9.2⟩)
theorem C1418_sc {σ σ' : jm_S} (h : jm_ag C1418 σ σ') : jm_ag Csc σ σ' := h.mo (fun k r h9 => by simp only [Csc, C1418, Bool.or_eq_false_iff] at h9 ⊢; exact h9.1.1.1)
theorem c_bmt (e : Nat) (σ : jm_S) {T : sS} (h6 : T.1 ≤ 6) (hs : cS σ 1 T) : ∃ σ', jm_call (e + 4) jD_belowMarkTried [jm_R 0 0] σ = some (some (jm_I (bR (BS T T.2.1))), σ') ∧ jm_ag C1418 σ σ' := by
  obtain ⟨σ1, e1, e2, e3⟩ := c_measure e σ 1 h6 hs
  obtain ⟨σ2, f1, f2, f3⟩ := c_belowAt e σ1 h6 e2 T.2.1
  refine ⟨σ2, ?_, (C17_1418 e3).tr (C18_1418 f3)⟩
  rw [gD_belowMarkTried_0, e1, Option.bind_some, jm_pn, gD_belowMarkTried_11, (e3 7 1 rfl).1, hs.2.1, f1, Option.bind_some, jm_ps, gD_belowMarkTried_25]
  rfl
theorem r_thenL (e : Nat) (σ0 : jm_S) : ∀ (f k : Nat) (σ : jm_S), k + f = 26 → jm_ag (fun k r => k == 25 && r == 2) σ0 σ → (∀ j, j < k → σ.1 25 2 j = σ0.1 25 0 j) → ∃ σ', jm_ev e (jM_layThen, 2, [some (jm_R 21 0), some (jm_I (nI k))], [], σ) = some (none, σ') ∧ jm_ag (fun k r => k == 25 && r == 2) σ0 σ' ∧ ∀ j, j < 26 → σ'.1 25 2 j = σ0.1 25 0 j
  | 0, k, σ, h, ha, h1 => by
    have : k = 26 := by omega
    subst this
    exact ⟨σ, by rw [gM_layThen_2, jm_ct (show (26 : Int32) ≤ nI 26 by decide)], ha, h1⟩
  | f + 1, k, σ, h, ha, h1 => by
    obtain ⟨σ', e1, e2⟩ := r_thenL e σ0 f (k + 1) (jm_wi σ 25 2 k (σ.1 25 0 k)) (by omega) (ha.tr (jm_ag.wi rfl)) (fun j hj => by
      rw [jm_w_s]
      by_cases hk : j = k
      · subst hk; rw [pk_us, (ha 25 0 rfl).1]
      · rw [pk_un hk]; exact h1 j (by omega))
    refine ⟨σ', ?_, e2⟩
    rw [gM_layThen_2, jm_cf (show ¬ (26 : Int32) ≤ nI k from nI_ge (b := 26) (by omega) (by decide)), jm_in_nI (show k < 26 by omega) (by decide), cond_true, cond_true, jm_cl (by omega), nI_1, e1]
theorem r_layThen (e : Nat) (σ : jm_S) {S : sS} (h6 : S.1 ≤ 6) (hs : rS (σ.1 25 0) S) : ∃ σ', jm_call (e + 1) jM_layThen [jm_R 21 0] σ = some (none, σ') ∧ jm_ag (fun k r => k == 25 && r == 2) σ σ' ∧ rS (σ'.1 25 2) S := by
  obtain ⟨σ', e1, e2, e3⟩ := r_thenL e σ 26 0 σ rfl jm_ag.rf (fun j hj => by omega)
  exact ⟨σ', by rw [gM_layThen_0]; exact e1, e2, rS_cg hs h6 e3⟩
def stf (B : Nat → Option Nat) (x : Nat) : Nat → Nat → Option (Option Nat)
  | 0, _ => some none
  | f + 1, k => match B k with
    | none => none
    | some c => if x < c then stf B x f (k + 1) else some (some k)
def stV (o : Option (Option Nat)) : Int32 := match o with
  | none => -1000016
  | some none => -1000000
  | some (some k) => nI k
def stB (S : sS) (i k : Nat) : Option Nat := BS (sPut S 1 i (S.2.2 1 i + nI k)) S.2.1
theorem stB_le {S : sS} {i k c : Nat} (h : stB S i k = some c) : c ≤ S.1 := by
  unfold stB at h
  have h9 := BS_le (S := sPut S 1 i (S.2.2 1 i + nI k)) h
  exact h9
theorem c_stL (σ0 : jm_S) {A : aS} (hA : okA A) (hc : cRel σ0 A) {i x : Nat} (hi : i < (aSh A).1) (hx : x ≤ 6) : ∀ (f k : Nat) (σ : jm_S) (o : Option jm_V), k + f = 61 → jm_ag Csc σ0 σ → σ.1 7 1 1 = nI (aSh A).1 → σ.1 7 1 2 = (aSh A).2.1 → (∀ w, w < 4 → ∀ d, d < (aSh A).1 → ¬ (w = 1 ∧ d = i) → σ.1 9 (4 * 1 + w) d = (aSh A).2.2 w d) → ∃ σ', jm_ev 59 (jD_stiffer, 50, [some (jm_R 0 0), some (jm_I (nI i)), some (jm_I (nI x)), some (jm_I (nI k)), o], [], σ) = some (some (jm_I (stV (stf (stB (aSh A) i) x f k))), jm_wi σ' 0 0 13 (cond (stf (stB (aSh A) i) x f k).isNone 6 0)) ∧ jm_ag Csc σ0 σ'
  | 0, k, σ, o, h, ha, h1, h2, h3 => by
    have : k = 61 := by omega
    subst this
    exact ⟨σ, by rw [gD_stiffer_50, jm_ct (show (60 : Int32) < nI 61 by decide), gD_clean_0, Option.bind_some, jm_ps, gD_stiffer_124]; rfl, ha⟩
  | f + 1, k, σ, o, h, ha, h1, h2, h3 => by
    have h6 := hA.2.2.1.1
    have hsp : σ.1 9 1 i = (aSh A).2.2 1 i := by rw [(ha 9 1 rfl).1]; exact hc.2.2.1.2.2 1 (by omega) i hi
    have hT : cS (jm_wi σ 9 5 i ((aSh A).2.2 1 i + nI k)) 1 (sPut (aSh A) 1 i ((aSh A).2.2 1 i + nI k)) := by
      refine ⟨h1, h2, fun w hw d hd => ?_⟩
      show (jm_wi σ 9 5 i ((aSh A).2.2 1 i + nI k)).1 9 (4 * 1 + w) d = if w = 1 ∧ d = i then (aSh A).2.2 1 i + nI k else (aSh A).2.2 w d
      by_cases h9 : w = 1 ∧ d = i
      · rw [if_pos h9, h9.1, h9.2]
        show (jm_wi σ 9 5 i ((aSh A).2.2 1 i + nI k)).1 9 5 i = _
        rw [jm_w_s, pk_us]
      · rw [if_neg h9]
        by_cases hw1 : w = 1
        · subst hw1
          show (jm_wi σ 9 5 i ((aSh A).2.2 1 i + nI k)).1 9 5 d = _
          rw [jm_w_s, pk_un (fun h8 => h9 ⟨rfl, h8⟩)]
          exact h3 1 hw d hd h9
        · rw [jm_w_n _ _ _ (fun h8 => hw1 (by omega))]
          exact h3 w hw d hd h9
    obtain ⟨σ1, e1, e2⟩ := c_bmt 55 _ (T := sPut (aSh A) 1 i ((aSh A).2.2 1 i + nI k)) h6 hT
    have hag : jm_ag Csc σ0 σ1 := (ha.tr (jm_ag.wi rfl)).tr (C1418_sc e2)
    have hB : BS (sPut (aSh A) 1 i ((aSh A).2.2 1 i + nI k)) (sPut (aSh A) 1 i ((aSh A).2.2 1 i + nI k)).2.1 = stB (aSh A) i k := rfl
    rw [hB] at e1
    have hst : jm_ev 59 (jD_stiffer, 50, [some (jm_R 0 0), some (jm_I (nI i)), some (jm_I (nI x)), some (jm_I (nI k)), o], [], σ) = jm_ev 59 (jD_stiffer, 84, [some (jm_R 0 0), some (jm_I (nI i)), some (jm_I (nI x)), some (jm_I (nI k)), o], [jm_I (bR (stB (aSh A) i k))], σ1) := by
      rw [gD_stiffer_50, jm_cf (show ¬ (60 : Int32) < nI k from nI_nlt (a := 60) (by omega) (by omega)), jm_in_nI (show i < 6 by omega) (by decide), cond_true, cond_true, jm_cl (by omega), hsp, e1, Option.bind_some, jm_ps]
    rw [hst, gD_stiffer_84]
    cases hb : stB (aSh A) i k with
    | none =>
      refine ⟨σ1, ?_, hag⟩
      rw [jm_cf (fun h9 => h9 rfl), gD_found_0, Option.bind_some, jm_ps, gD_stiffer_99]
      simp [stf, hb, stV]
    | some c =>
      have hc6 := stB_le hb
      have hne : ¬ bR (some c) = -1000016 := fun h9 => by
        have := (bR_ov (o := some c) (fun c' h8 => by cases h8; omega)).mp h9
        cases this
      rw [jm_ct hne]
      show ∃ σ', cond (decide (nI x < nI c)) _ _ = _ ∧ _
      by_cases hxc : x < c
      · obtain ⟨σ', g1, g2⟩ := c_stL σ0 hA hc hi hx f (k + 1) σ1 (some (jm_I (nI c))) (by omega) hag (by rw [(e2 7 1 rfl).1]; exact h1) (by rw [(e2 7 1 rfl).1]; exact h2) (fun w hw d hd h9 => by
          rw [(e2 9 _ rfl).1]
          have := hT.2.2 w hw d hd
          rw [this]
          exact if_neg h9)
        refine ⟨σ', ?_, g2⟩
        rw [jm_ct (nI_lt hxc (by omega)), nI_1]
        refine Eq.trans g1 ?_
        simp [stf, hb, hxc]
      · refine ⟨σ1, ?_, hag⟩
        rw [jm_cf (nI_nlt (by omega) (by omega)), gD_clean_0, Option.bind_some, jm_ps, gD_stiffer_111]
        simp [stf, hb, hxc, stV]
theorem Cl2_rs {σ σ' : jm_S} (h : jm_ag (fun k r => k == 25 && r == 2) σ σ') : jm_ag Crs σ σ' := h.mo (fun k r h9 => by
  simp only [Crs, Bool.or_eq_false_iff] at h9
  cases hk : (k == 25) with
  | false => rfl
  | true =>
    have h8 := h9.2
    rw [hk] at h8
    have h8 : (r == 1 || r == 2) = false := h8
    simp only [Bool.or_eq_false_iff] at h8
    exact h8.2)
theorem r_stL (σ0 : jm_S) {A : aS} (hA : okA A) (hr : rRel σ0 A) {i x : Nat} (hi : i < (aSh A).1) (hx : x ≤ 6) : ∀ (f k : Nat) (σ : jm_S) (o : Option jm_V), k + f = 61 → jm_ag Crs σ0 σ → f19 σ0 σ → (k = 0 ∨ σ.1 21 0 19 = bI false) → ∃ σ', jm_ev 59 (jM_stiffer, 40, [some (jm_R 21 0), some (jm_I (nI i)), some (jm_I (nI x)), some (jm_I (nI k)), o], [], σ) = some (some (jm_I (stV (stf (stB (aSh A) i) x f k))), σ') ∧ rRel σ' (aFdW A (cond (stf (stB (aSh A) i) x f k).isNone 6 0)) ∧ jm_ag Crf σ0 σ'
  | 0, k, σ, o, h, ha, hf, h19 => by
    have : k = 61 := by omega
    subst this
    obtain ⟨σ', e1, e2, e3⟩ := r_unlessR 57 (-1000000) (h19.resolve_left (by decide)) (hr.sc ha hf.live)
    refine ⟨σ', ?_, e2, (Crs_rf ha).tr e3⟩
    rw [gM_stiffer_40, jm_ct (show (60 : Int32) < nI 61 by decide), e1, Option.bind_some, jm_ps, gM_stiffer_113]
    rfl
  | f + 1, k, σ, o, h, ha, hf, h19 => by
    have h6 := hA.2.2.1.1
    have hrσ := hr.sc ha hf.live
    obtain ⟨σ1, e1, e2, e3⟩ := r_layThen 58 σ h6 hrσ.2.2.1
    have hrd : σ1.1 25 2 (2 + 4 * i + 2) = (aSh A).2.2 1 i := (e3.2.2 i hi).2.2.1
    have hT : rS ((jm_wi σ1 25 2 (2 + 4 * i + 2) ((aSh A).2.2 1 i + nI k)).1 25 2) (sPut (aSh A) 1 i ((aSh A).2.2 1 i + nI k)) := by
      rw [jm_w_s]
      exact rS_put e3 (u := 1) (i := i) (by omega) _
    have hK : okK (sPut (aSh A) 1 i ((aSh A).2.2 1 i + nI k)) := ⟨h6, fun d hd => by
      show (if 3 = 1 ∧ d = i then _ else (aSh A).2.2 3 d).toInt ≤ 5
      rw [if_neg (fun h9 => absurd h9.1 (by decide))]
      exact hA.2.2.1.K.2 d hd⟩
    obtain ⟨σ2, g1, g2, g3, g4⟩ := r_belowOf 54 _ 2 hK hT (aSh A).2.1
    have hag : jm_ag Crs σ0 σ2 := (ha.tr ((Cl2_rs e2).tr (jm_ag.wi rfl))).tr (C28_rs g4)
    have hf2 : f19 σ0 σ2 := fun j hj => by
      rw [g3 j hj]
      show σ1.1 21 0 j = _
      rw [(e2 21 0 rfl).1]
      exact hf j hj
    have hmk : σ1.1 25 0 1 = (aSh A).2.1 := by rw [(e2 25 0 rfl).1]; exact hrσ.2.2.1.2.1
    have hst : jm_ev 59 (jM_stiffer, 40, [some (jm_R 21 0), some (jm_I (nI i)), some (jm_I (nI x)), some (jm_I (nI k)), o], [], σ) = jm_ev 59 (jM_stiffer, 80, [some (jm_R 21 0), some (jm_I (nI i)), some (jm_I (nI x)), some (jm_I (nI k)), o], [jm_I (nI ((stB (aSh A) i k).getD 0))], σ2) := by
      rw [gM_stiffer_40, jm_cf (show ¬ (60 : Int32) < nI k from nI_nlt (a := 60) (by omega) (by omega)), e1, Option.bind_some, jm_pn, gM_stiffer_50, show (2 : Int32) + 4 * nI i + 2 = nI (2 + 4 * i + 2) from by rw [show (2 : Int32) = nI 2 from rfl, show (4 : Int32) = nI 4 from rfl, pk_mul, nI_add, nI_add], jm_in_nI (show 2 + 4 * i + 2 < 26 by omega) (by decide), cond_true, cond_true, jm_cl (by omega), hrd, hmk, g1, Option.bind_some, jm_ps]
      rfl
    have g2' : σ2.1 21 0 19 = bI (stB (aSh A) i k).isNone := g2
    rw [hst, gM_stiffer_80, g2', gM_stiffer_95]
    cases hb : stB (aSh A) i k with
    | none =>
      rw [hb] at g2'
      obtain ⟨σ', u1, u2, u3⟩ := r_unlessR 57 (nI k) g2' (hr.sc hag hf2.live)
      refine ⟨σ', ?_, ?_, (Crs_rf hag).tr u3⟩
      · rw [jm_ct (by decide), u1, Option.bind_some, jm_ps, gM_stiffer_100]
        simp [stf, hb, stV]
      · simp only [stf, hb]; exact u2
    | some c =>
      rw [hb] at g2'
      rw [jm_cf (fun h9 => h9 rfl)]
      show ∃ σ', cond (decide (nI x < nI c)) _ _ = _ ∧ _
      have hc6 := stB_le hb
      by_cases hxc : x < c
      · obtain ⟨σ', q1, q2, q3⟩ := r_stL σ0 hA hr hi hx f (k + 1) σ2 (some (jm_I (nI c))) (by omega) hag hf2 (Or.inr g2')
        refine ⟨σ', ?_, ?_, q3⟩
        · rw [jm_ct (nI_lt hxc (by omega)), nI_1]
          refine Eq.trans q1 ?_
          simp [stf, hb, hxc]
        · simp only [stf, hb, if_pos hxc]; exact q2
      · obtain ⟨σ', u1, u2, u3⟩ := r_unlessR 57 (nI k) g2' (hr.sc hag hf2.live)
        refine ⟨σ', ?_, ?_, (Crs_rf hag).tr u3⟩
        · rw [jm_cf (nI_nlt (by omega) (by omega)), u1, Option.bind_some, jm_ps, gM_stiffer_100]
          simp [stf, hb, hxc, stV]
        · simp only [stf, hb, if_neg hxc]; exact u2
theorem P_stiffer {A : aS} (hA : okA A) (x y : Int32) : Pair A jD_stiffer jM_stiffer [jm_I x, jm_I y] := by
  have h6 := hA.2.2.1.1
  have z0 : (0 : Int32).toInt = 0 := rfl
  have z6 : (6 : Int32).toInt = 6 := rfl
  have hrin : ∀ σ, rRel σ A → jm_call 59 jM_in [jm_L x.toInt64, jm_L 0, jm_L (((σ.1 25 0 0) - 2).toInt64)] (jm_wi σ 21 0 0 0) = some (some (jm_I (if 0 ≤ x.toInt ∧ x.toInt + 1 < (aSh A).1 then 1 else 0)), jm_wi σ 21 0 0 0) := by
    intro σ hr
    have h2 : (nI (aSh A).1 - 2).toInt = ((aSh A).1 : Int) - 2 := pk_sub_toInt (a := (aSh A).1) (b := 2) (by omega) (by omega)
    rw [r_in, hr.2.2.1.1]
    simp only [jm_i64, show (0 : Int64).toInt = 0 from rfl, h2]
    by_cases h : 0 ≤ x.toInt ∧ x.toInt + 1 < (aSh A).1
    · rw [if_pos (by omega), if_pos h]
    · rw [if_neg (by omega), if_neg h]
  by_cases h : 0 ≤ x.toInt ∧ x.toInt + 1 < (aSh A).1
  case neg =>
    refine ⟨jm_I (-1000001), A, hA, fun σ hc => ⟨σ, ?_, hc, jm_ag.rf⟩, fun σ hr => ⟨jm_wi σ 21 0 0 0, ?_, hr.th 0, jm_ag.wi rfl⟩⟩
    · rw [gD_stiffer_0, c_has 58 σ 0 _ hc.2.2.1.1 h6, Option.bind_some, jm_ps, gD_stiffer_8, gD_stiffer_34, hc.2.2.1.1]
      by_cases hh : 0 ≤ x.toInt ∧ x.toInt < (aSh A).1
      · rw [if_pos hh, jm_cf (by decide), jm_ct]
        rw [jm_q32, nI_m1 (by omega)]
        omega
      · rw [if_neg hh, jm_ct rfl]
    · rw [gM_stiffer_0, hrin σ hr, if_neg h, Option.bind_some, jm_ps, gM_stiffer_20, jm_ct rfl, gM_stiffer_35]
  obtain ⟨i, hi, rfl⟩ := jm_nI_of (x := x) (n := (aSh A).1) h.1 (by omega)
  have hi1 : i + 1 < (aSh A).1 := by have := h.2; rw [nI_toInt (by omega)] at this; omega
  have hh : 0 ≤ (nI i).toInt ∧ (nI i).toInt < (aSh A).1 := by omega
  have hnl : ¬ nI i = nI (aSh A).1 - 1 := by
    rw [jm_q32, nI_m1 (by omega), nI_toInt (by omega)]
    omega
  by_cases hy : 0 ≤ y.toInt ∧ y.toInt ≤ (6 : Nat)
  case neg =>
    refine ⟨jm_I (-1000001), A, hA, fun σ hc => ⟨σ, ?_, hc, jm_ag.rf⟩, fun σ hr => ⟨jm_wi σ 21 0 0 0, ?_, hr.th 0, jm_ag.wi rfl⟩⟩
    · rw [gD_stiffer_0, c_has 58 σ 0 _ hc.2.2.1.1 h6, if_pos hh, Option.bind_some, jm_ps, gD_stiffer_8, jm_cf (by decide), hc.2.2.1.1, jm_cf hnl, gD_stiffer_34]
      by_cases hy0 : y < 0
      · rw [jm_ct hy0]
      · rw [jm_cf hy0, jm_cf]
        rw [jm_ti32] at hy0
        rw [jm_te32]
        omega
    · rw [gM_stiffer_0, hrin σ hr, if_pos h, Option.bind_some, jm_ps, gM_stiffer_20, jm_cf (by decide), r_inK 58 _ _ 6 (n := 6) rfl, if_neg hy, Option.bind_some, jm_ps, gM_stiffer_32, jm_cf (fun h9 => h9 rfl), gM_stiffer_35]
  obtain ⟨v, hv, rfl⟩ := jm_nI_of (x := y) (n := 7) hy.1 (by omega)
  refine ⟨jm_I (stV (stf (stB (aSh A) i) v 61 0)), aFdW A (cond (stf (stB (aSh A) i) v 61 0).isNone 6 0), hA.fd _, fun σ hc => ?_, fun σ hr => ?_⟩
  · obtain ⟨σ1, e1, e2, e3⟩ := c_takeFrom 58 σ (r0 := 1) (r1 := 0) (by omega) h6 hc.2.2.1
    have m1 : jm_ag Csc σ σ1 := e2.mo (fun g r h8 => by
      simp only [Csc, Bool.or_eq_false_iff] at h8
      simp only [Ctf, Bool.or_eq_false_iff]
      exact ⟨h8.1.2, h8.2⟩)
    obtain ⟨σ', g1, g2⟩ := c_stL σ hA hc hi (x := v) (by omega) 61 0 σ1 none rfl m1 e3.1 e3.2.1 (fun w hw d hd _ => e3.2.2 w hw d hd)
    obtain ⟨q1, q2⟩ := cFin (x := cond (stf (stB (aSh A) i) v 61 0).isNone 6 0) hc g2
    refine ⟨_, ?_, q1, q2⟩
    rw [gD_stiffer_0, c_has 58 σ 0 _ hc.2.2.1.1 h6, if_pos hh, Option.bind_some, jm_ps, gD_stiffer_8, jm_cf (by decide), hc.2.2.1.1, jm_cf hnl, jm_cf (nI_pos (by omega)), jm_ct (show nI v ≤ 6 from nI_le (b := 6) (by omega) (by decide)), e1, Option.bind_some, jm_pn, gD_stiffer_48]
    exact g1
  · have hr' := hr.th 0
    obtain ⟨σ', g1, g2, g3⟩ := r_stL (jm_wi σ 21 0 0 0) hA hr' hi (x := v) (by omega) 61 0 (jm_wi σ 21 0 0 0) none rfl jm_ag.rf (fun _ _ => rfl) (Or.inl rfl)
    refine ⟨σ', ?_, g2, (jm_ag.wi rfl).tr g3⟩
    rw [gM_stiffer_0, hrin σ hr, if_pos h, Option.bind_some, jm_ps, gM_stiffer_20, jm_cf (by decide), r_inK 58 _ _ 6 (n := 6) rfl, if_pos hy, Option.bind_some, jm_ps, gM_stiffer_32, jm_ct (by decide)]
    exact g1
