-- METHODS: kind, fault, status, trace, below, box, determinant
theorem r_isRow (e : Nat) (σ : jm_S) (x : Int32) : jm_call (e + 2) jM_isRow [jm_I x] σ = some (some (jm_I (if 0 ≤ x.toInt ∧ x.toInt < 8 then 1 else 0)), σ) := by
  rw [gM_isRow_0, r_in, Option.bind_some, jm_ps, gM_isRow_9]
  simp only [jm_i64, show (0 : Int64).toInt = 0 from rfl, show (7 : Int64).toInt = 7 from rfl]
  by_cases h : 0 ≤ x.toInt ∧ x.toInt < 8
  · rw [if_pos (by omega), if_pos h]; rfl
  · rw [if_neg (by omega), if_neg h]; rfl
theorem nI_m1 {n : Nat} (h : n < 2 ^ 30) : (nI n - 1).toInt = (n : Int) - 1 := pk_sub_toInt (a := n) (b := 1) h (by omega)
theorem r_isDisc (e : Nat) (σ : jm_S) (x : Int32) {n : Nat} (hn : σ.1 25 0 0 = nI n) (h6 : n ≤ 6) : jm_call (e + 2) jM_isDisc [jm_R 21 0, jm_I x] σ = some (some (jm_I (if 0 ≤ x.toInt ∧ x.toInt < n then 1 else 0)), σ) := by
  rw [gM_isDisc_0, r_in, Option.bind_some, jm_ps, gM_isDisc_15, hn]
  simp only [jm_i64, show (0 : Int64).toInt = 0 from rfl, nI_m1 (show n < 2 ^ 30 by omega)]
  by_cases h : 0 ≤ x.toInt ∧ x.toInt < n
  · rw [if_pos (by omega), if_pos h]; rfl
  · rw [if_neg (by omega), if_neg h]; rfl
theorem r_isThere (e : Nat) (σ : jm_S) {n : Nat} (hn : σ.1 25 0 0 = nI n) (h6 : n ≤ 6) : jm_call (e + 1) jM_isThere [jm_R 21 0] σ = some (some (jm_I (if n = 0 then 0 else 1)), σ) := by
  rw [gM_isThere_0, hn, gM_isThere_14, gM_isThere_14]
  by_cases h : n = 0
  · subst h; rfl
  · rw [jm_cf (nI_nle (by omega) (by omega)), if_neg h]; rfl
theorem c_isMark (e : Nat) (σ : jm_S) (x : Int32) : jm_call (e + 1) jD_isMark [jm_I x] σ = some (some (jm_I (if 0 ≤ x.toInt ∧ x.toInt ≤ 200 then 1 else 0)), σ) := by
  simp only [gD_isMark_0, gD_isMark_15, gD_isMark_16, Bool.cond_decide, jm_b0, jm_b1, cond_true, jm_ti32]
  simp only [show (0 : Int32).toInt = 0 from rfl, show (200 : Int32).toInt = 200 from rfl]
  split
  · next h => rw [if_neg (by omega)]
  · split
    · next h => rw [if_neg (by omega)]
    · rw [if_pos (by omega)]
theorem r_inM (e : Nat) (σ : jm_S) (x : Int32) : jm_call (e + 1) jM_in [jm_L x.toInt64, jm_L 0, jm_L 200] σ = some (some (jm_I (if 0 ≤ x.toInt ∧ x.toInt ≤ 200 then 1 else 0)), σ) := by
  rw [r_in]
  simp only [jm_i64, show (0 : Int64).toInt = 0 from rfl, show (200 : Int64).toInt = 200 from rfl]
theorem c_answered (e : Nat) (σ : jm_S) (x : Int32) : jm_call (e + 2) jD_answered [jm_R 0 0, jm_I x] σ = some (some (jm_I x), jm_wi σ 0 0 13 (if x = -1000016 then 6 else 0)) := by
  rw [gD_answered_0, gD_clean_0, gD_found_0, Option.bind_some, Option.bind_some, jm_ps, jm_ps, gD_answered_12, gD_answered_20, gD_answered_20]
  by_cases h : x = -1000016
  · subst h; rfl
  · rw [jm_ct h, if_neg h]
theorem r_unless (e : Nat) (σ : jm_S) (x : Int32) {o : Bool} (ho : σ.1 21 0 19 = bI o) : jm_call (e + 2) jM_unless [jm_R 21 0, jm_I x] σ = some (some (jm_I (cond o (-1000016) x)), jm_wi (jm_wi σ 21 0 1 0) 21 0 1 (cond o 6 0)) ∨ (o = false ∧ jm_call (e + 2) jM_unless [jm_R 21 0, jm_I x] σ = some (some (jm_I x), jm_wi σ 21 0 1 0)) := by
  cases o with
  | true =>
    refine Or.inl ?_
    rw [gM_unless_0, ho, jm_cf (show ¬ bI true = 0 by decide), gM_finding_0, Option.bind_some, jm_ps, gM_unless_18, gM_unless_22]
    rfl
  | false =>
    refine Or.inr ⟨rfl, ?_⟩
    rw [gM_unless_0, ho, jm_ct (show bI false = 0 from rfl), gM_unless_22]
theorem r_unlessR (e : Nat) {σ : jm_S} {A : aS} (x : Int32) {o : Bool} (ho : σ.1 21 0 19 = bI o) (h : rRel σ A) : ∃ σ', jm_call (e + 2) jM_unless [jm_R 21 0, jm_I x] σ = some (some (jm_I (cond o (-1000016) x)), σ') ∧ rRel σ' (aFdW A (cond o 6 0)) ∧ jm_ag Crf σ σ' := by
  rcases r_unless e σ x ho with h1 | ⟨rfl, h1⟩
  · exact ⟨_, h1, (h.fd 0).fd _, (jm_ag.wi rfl).tr (jm_ag.wi rfl)⟩
  · exact ⟨_, h1, h.fd 0, jm_ag.wi rfl⟩
theorem f19.live {σ σ' : jm_S} (h : f19 σ σ') : ∀ j, j = 1 ∨ j = 9 ∨ j = 11 ∨ j = 18 ∨ j = 25 → σ'.1 21 0 j = σ.1 21 0 j := fun j hj => h j (by omega)
theorem C28_rs {σ σ' : jm_S} (h : jm_ag C28 σ σ') : jm_ag Crs σ σ' := h.mo (fun k r h9 => by simp only [Crs, C28, Bool.or_eq_false_iff] at h9 ⊢; exact ⟨h9.1.1.1, h9.1.1.2⟩)
theorem C29_rs {σ σ' : jm_S} (h : jm_ag C29 σ σ') : jm_ag Crs σ σ' := h.mo (fun k r h9 => by simp only [Crs, C29, Bool.or_eq_false_iff] at h9 ⊢; exact h9.1)
theorem Crs_rf {σ σ' : jm_S} (h : jm_ag Crs σ σ') : jm_ag Crf σ σ' := h.mo (fun k r h9 => by
  have hk : k < 21 := by
    cases hb : Nat.ble 21 k with
    | true => simp only [Crf, hb] at h9; cases h9
    | false => exact Nat.lt_of_not_le fun q => by rw [Nat.ble_eq_true_of_le q] at hb; cases hb
  have : k ≠ 21 ∧ k ≠ 28 ∧ k ≠ 29 ∧ k ≠ 25 := by omega
  simp [Crs, this])
theorem C18_sc {σ σ' : jm_S} (h : jm_ag C18 σ σ') : jm_ag Csc σ σ' := h.mo (fun k r h9 => by simp only [Csc, C18, Bool.or_eq_false_iff] at h9 ⊢; exact ⟨h9.1.1.1.1.1.1.1, h9.1.1.1.2⟩)
theorem C19_sc {σ σ' : jm_S} (h : jm_ag C19 σ σ') : jm_ag Csc σ σ' := h.mo (fun k r h9 => by simp only [Csc, C19, Bool.or_eq_false_iff] at h9 ⊢; exact ⟨⟨h9.1.1.1.1.1.1.1, h9.1.1.1.2⟩, h9.1.1.2⟩)
theorem C17_sc {σ σ' : jm_S} (h : jm_ag C17 σ σ') : jm_ag Csc σ σ' := h.mo (fun k r h9 => by simp only [Csc, C17, Bool.or_eq_false_iff] at h9 ⊢; exact ⟨⟨⟨h9.1.1.1.1.1.1.1, h9.1.1.1.1.1.1.2⟩, h9.1.1.1.1.1.2⟩, h9.1.1.1.1.2⟩)
theorem Csc_cl {σ σ' : jm_S} (h : jm_ag Csc σ σ') : jm_ag Ccl σ σ' := h.mo (fun k r h9 => by
  have hk : 21 ≤ k := by
    cases hb : Nat.blt k 21 with
    | true => simp only [Ccl, hb] at h9; cases h9
    | false => exact Nat.le_of_not_lt fun q => by rw [show Nat.blt k 21 = true from Nat.ble_eq_true_of_le q] at hb; cases hb
  have : k ≠ 14 ∧ k ≠ 15 ∧ k ≠ 16 ∧ k ≠ 17 ∧ k ≠ 18 ∧ k ≠ 19 ∧ k ≠ 7 ∧ k ≠ 9 := by omega
  simp [Csc, this])
theorem P_fault {A : aS} (hA : okA A) : Pair A jD_fault jM_fault [] :=
  ⟨jm_I (aFt A), A, hA, fun σ hc => ⟨σ, by rw [gD_fault_0, hc.2.2.2.2.2.2.1], hc, jm_ag.rf⟩, fun σ hr => ⟨_, by rw [gM_fault_0, hr.2.2.2.2.2.2.1], hr.th 0, jm_ag.wi rfl⟩⟩
theorem P_status {A : aS} (hA : okA A) : Pair A jD_status jM_status [] :=
  ⟨jm_I (aFd A), A, hA, fun σ hc => ⟨σ, by rw [gD_status_0, hc.2.2.2.2.2.2.2], hc, jm_ag.rf⟩, fun σ hr => ⟨_, by rw [gM_status_0, hr.2.2.2.2.2.2.2], hr.th 0, jm_ag.wi rfl⟩⟩
theorem P_kind {A : aS} (hA : okA A) (x : Int32) : Pair A jD_kind jM_kind [jm_I x] := by
  have h6 := hA.2.2.1.1
  by_cases h : 0 ≤ x.toInt ∧ x.toInt < (aSh A).1
  · obtain ⟨j, hj, rfl⟩ := jm_nI_of h.1 h.2
    refine ⟨jm_I ((aSh A).2.2 3 j), A, hA, fun σ hc => ⟨σ, ?_, hc, jm_ag.rf⟩, fun σ hr => ⟨jm_wi σ 21 0 0 0, ?_, hr.th 0, jm_ag.wi rfl⟩⟩
    · rw [gD_kind_0, c_has 58 σ 0 _ hc.2.2.1.1 h6, if_pos h, Option.bind_some, jm_ps, gD_kind_8, jm_cf (by decide), jm_in_nI (show j < 6 by omega) (by decide), cond_true, jm_cl (by omega), gD_kind_27]
      have := hc.2.2.1.2.2 3 (by omega) j hj
      rw [show 4 * 0 + 3 = 3 from rfl] at this
      rw [this]
    · have hr' := hr.th 0
      rw [gM_kind_0, r_isDisc 57 _ _ hr'.2.2.1.1 h6, if_pos h, Option.bind_some, jm_ps, gM_kind_10, jm_cf (by decide), r_of0 58 _ 0 (show j < 6 by omega), Option.bind_some, jm_ps, gM_kind_22, gM_kind_27, (hr'.2.2.1.2.2 j hj).1]
  · refine ⟨jm_I (-1000001), A, hA, fun σ hc => ⟨σ, ?_, hc, jm_ag.rf⟩, fun σ hr => ⟨jm_wi σ 21 0 0 0, ?_, hr.th 0, jm_ag.wi rfl⟩⟩
    · rw [gD_kind_0, c_has 58 σ 0 _ hc.2.2.1.1 h6, if_neg h, Option.bind_some, jm_ps, gD_kind_8, jm_ct rfl, gD_kind_27]
    · have hr' := hr.th 0
      rw [gM_kind_0, r_isDisc 57 _ _ hr'.2.2.1.1 h6, if_neg h, Option.bind_some, jm_ps, gM_kind_10, jm_ct rfl, gM_kind_27]
theorem P_trace {A : aS} (hA : okA A) (x : Int32) : Pair A jD_trace jM_trace [jm_I x] := by
  have h16 := hA.2.2.2.2.2
  have hrt : ∀ σ : jm_S, rRel σ A → jm_call 59 jM_in [jm_L x.toInt64, jm_L 0, jm_L (((σ.1 21 0 25) - 1).toInt64)] (jm_wi σ 21 0 0 0) = some (some (jm_I (if 0 ≤ x.toInt ∧ x.toInt < (aTr A).1 then 1 else 0)), jm_wi σ 21 0 0 0) := by
    intro σ hr
    rw [r_in, hr.2.2.2.2.2.1.1]
    simp only [jm_i64, show (0 : Int64).toInt = 0 from rfl, nI_m1 (show (aTr A).1 < 2 ^ 30 by omega)]
    by_cases h : 0 ≤ x.toInt ∧ x.toInt < (aTr A).1
    · rw [if_pos (by omega), if_pos h]
    · rw [if_neg (by omega), if_neg h]
  by_cases h : 0 ≤ x.toInt ∧ x.toInt < (aTr A).1
  · obtain ⟨j, hj, rfl⟩ := jm_nI_of h.1 h.2
    refine ⟨jm_I ((aTr A).2 j), A, hA, fun σ hc => ⟨σ, ?_, hc, jm_ag.rf⟩, fun σ hr => ⟨jm_wi σ 21 0 0 0, ?_, hr.th 0, jm_ag.wi rfl⟩⟩
    · rw [gD_trace_0, jm_cf (nI_pos (by omega)), hc.2.2.2.2.2.1.1, jm_cf (nI_ge hj (by omega)), jm_in_nI (show j < 16 by omega) (by decide), cond_true, jm_cl (by omega), gD_trace_23, hc.2.2.2.2.2.1.2 j hj]
    · rw [gM_trace_0, hrt σ hr, if_pos h, Option.bind_some, jm_ps, gM_trace_18, jm_cf (by decide), jm_in_nI (show j < 16 by omega) (by decide), cond_true, jm_cl (by omega), gM_trace_32]
      show some (some (jm_I (σ.1 32 0 j)), _) = _
      rw [hr.2.2.2.2.2.1.2 j hj]
  · refine ⟨jm_I (-1000000), A, hA, fun σ hc => ⟨σ, ?_, hc, jm_ag.rf⟩, fun σ hr => ⟨jm_wi σ 21 0 0 0, ?_, hr.th 0, jm_ag.wi rfl⟩⟩
    · rw [gD_trace_0, gD_trace_21, gD_trace_23]
      by_cases h0 : x < 0
      · rw [jm_ct h0]
      · rw [jm_cf h0, hc.2.2.2.2.2.1.1, jm_ct]
        rw [jm_te32, nI_toInt (by omega)]
        rw [jm_ti32] at h0
        have : (0 : Int32).toInt = 0 := rfl
        omega
    · rw [gM_trace_0, hrt σ hr, if_neg h, Option.bind_some, jm_ps, gM_trace_18, jm_ct rfl, gM_trace_32]
theorem cFin {x : Int32} {σ σ1 : jm_S} {A : aS} (hc : cRel σ A) (ha : jm_ag Csc σ σ1) : cRel (jm_wi σ1 0 0 13 x) (aFdW A x) ∧ jm_ag Ccl σ (jm_wi σ1 0 0 13 x) := ⟨(hc.sc ha).fd x, (Csc_cl ha).tr (jm_ag.wi rfl)⟩
theorem bR_if (o : Option Nat) (h : ∀ c, o = some c → c < 2 ^ 31) : (if bR o = -1000016 then (6 : Int32) else 0) = cond o.isNone 6 0 := by
  cases o with
  | none => rfl
  | some c =>
    rw [if_neg]
    · rfl
    · intro h9
      have := (bR_ov (o := some c) h).mp h9
      cases this
theorem P_below {A : aS} (hA : okA A) (x : Int32) : Pair A jD_below jM_below [jm_I x] := by
  have h6 := hA.2.2.1.1
  by_cases h0 : (aSh A).1 = 0
  · refine ⟨jm_I (-1000002), A, hA, fun σ hc => ⟨σ, ?_, hc, jm_ag.rf⟩, fun σ hr => ⟨jm_wi σ 21 0 0 0, ?_, hr.th 0, jm_ag.wi rfl⟩⟩
    · rw [gD_below_0, hc.2.2.1.1, h0, jm_cf (fun h9 => h9 rfl)]
    · rw [gM_below_0, r_isThere 58 _ (hr.th 0).2.2.1.1 h6, if_pos h0, Option.bind_some, jm_ps, gM_below_9, jm_cf (fun h9 => h9 rfl)]
  · have hne : ¬ nI (aSh A).1 = 0 := nI_ne0 (by omega) (by omega)
    by_cases h : 0 ≤ x.toInt ∧ x.toInt ≤ 200
    · have hle : ∀ c, BS (aSh A) x = some c → c < 2 ^ 31 := fun c h9 => by have := BS_le h9; omega
      refine ⟨jm_I (bR (BS (aSh A) x)), aFdW A (cond (BS (aSh A) x).isNone 6 0), hA.fd _, fun σ hc => ?_, fun σ hr => ?_⟩
      · obtain ⟨σ1, e1, e2, e3⟩ := c_measure 56 σ 0 h6 hc.2.2.1
        obtain ⟨σ2, f1, f2, f3⟩ := c_belowAt 56 σ1 h6 e2 x
        obtain ⟨g1, g2⟩ := cFin (x := cond (BS (aSh A) x).isNone 6 0) hc ((C17_sc e3).tr (C18_sc f3))
        refine ⟨_, ?_, g1, g2⟩
        rw [gD_below_0, hc.2.2.1.1, jm_ct hne, c_isMark, if_pos h, Option.bind_some, jm_ps, gD_below_17, jm_ct (by decide), e1, Option.bind_some, jm_pn, gD_below_34, f1, Option.bind_some, jm_ps, gD_below_43, c_answered 57, Option.bind_some, jm_ps, gD_below_46]
        show some (some (jm_I (bR (BS (aSh A) x))), jm_wi σ2 0 0 13 (if bR (BS (aSh A) x) = -1000016 then 6 else 0)) = _
        rw [bR_if _ hle]
      · have hr' := hr.th 0
        obtain ⟨σ1, e1, e2, e3, e4⟩ := r_belowOf 54 _ 0 hA.2.2.1.K hr'.2.2.1 x
        obtain ⟨σ2, f1, f2, f3⟩ := r_unlessR 57 (nI ((BS (aSh A) x).getD 0)) e2 (hr'.sc (C28_rs e4) e3.live)
        refine ⟨σ2, ?_, f2, ((jm_ag.wi rfl).tr (Crs_rf (C28_rs e4))).tr f3⟩
        rw [gM_below_0, r_isThere 58 _ hr'.2.2.1.1 h6, if_neg h0, Option.bind_some, jm_ps, gM_below_9, jm_ct (by decide), r_inM, if_pos h, Option.bind_some, jm_ps, gM_below_24, jm_ct (by decide), e1, Option.bind_some, jm_ps, gM_below_40, f1, Option.bind_some, jm_ps, gM_below_43]
        cases BS (aSh A) x <;> rfl
    · refine ⟨jm_I (-1000001), A, hA, fun σ hc => ⟨σ, ?_, hc, jm_ag.rf⟩, fun σ hr => ⟨jm_wi σ 21 0 0 0, ?_, hr.th 0, jm_ag.wi rfl⟩⟩
      · rw [gD_below_0, hc.2.2.1.1, jm_ct hne, c_isMark, if_neg h, Option.bind_some, jm_ps, gD_below_17, jm_cf (fun h9 => h9 rfl)]
      · rw [gM_below_0, r_isThere 58 _ (hr.th 0).2.2.1.1 h6, if_neg h0, Option.bind_some, jm_ps, gM_below_9, jm_ct (by decide), r_inM, if_neg h, Option.bind_some, jm_ps, gM_below_24, jm_cf (fun h9 => h9 rfl)]
