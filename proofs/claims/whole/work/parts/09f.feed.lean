-- METHODS: feed, drop, row
theorem jm_w_s (σ : jm_S) (k r j : Nat) (x : Int32) : (jm_wi σ k r j x).1 k r = upd (σ.1 k r) j x := if_pos ⟨rfl, rfl⟩
theorem jm_w_n (σ : jm_S) {k r k' r' : Nat} (j : Nat) (x : Int32) (h : ¬ (k' = k ∧ r' = r)) : (jm_wi σ k r j x).1 k' r' = σ.1 k' r' := if_neg h
abbrev aTpW (A : aS) (t : Nat × (Nat → Int32)) : aS := (A.1, t, A.2.2)
abbrev aRoW (A : aS) (R : (Nat → Option (Nat × Nat)) × (Nat → Nat → Int32)) : aS := (R, A.2)
theorem r_inK (e : Nat) (σ : jm_S) (x : Int32) (k : Int64) {n : Nat} (hk : k.toInt = n) : jm_call (e + 1) jM_in [jm_L x.toInt64, jm_L 0, jm_L k] σ = some (some (jm_I (if 0 ≤ x.toInt ∧ x.toInt ≤ n then 1 else 0)), σ) := by
  rw [r_in]
  simp only [jm_i64, show (0 : Int64).toInt = 0 from rfl, hk]
theorem P_feed {A : aS} (hA : okA A) (x : Int32) : Pair A jD_feed jM_feed [jm_I x] := by
  have h80 := hA.2.1.1
  by_cases h : 0 ≤ x.toInt ∧ x.toInt ≤ (255 : Nat)
  · have h0 : ¬ x < 0 := by rw [jm_ti32, show (0 : Int32).toInt = 0 from rfl]; omega
    have h1 : x ≤ 255 := by rw [jm_te32, show (255 : Int32).toInt = 255 from rfl]; omega
    by_cases hf : (aTp A).1 = 80
    · refine ⟨jm_I (-1000003), A, hA, fun σ hc => ⟨σ, ?_, hc, jm_ag.rf⟩, fun σ hr => ⟨jm_wi σ 21 0 0 0, ?_, hr.th 0, jm_ag.wi rfl⟩⟩
      · rw [gD_feed_0, jm_cf h0, jm_ct h1, gR_takes_0, hc.2.1.1, hf, jm_cf (show ¬ nI 80 < 80 by decide), Option.bind_some, jm_ps, gD_feed_22, jm_ct rfl, gD_feed_37]
      · have hx := (hr.th 0).2.1.1
        rw [hf] at hx
        rw [gM_feed_0, r_inK 58 _ x 255 (n := 255) rfl, if_pos h, Option.bind_some, jm_ps, gM_feed_14, jm_ct (by decide), hx, jm_cf (fun h9 => h9 rfl)]
    · have hlt : (aTp A).1 < 80 := by omega
      have hne : ¬ nI (aTp A).1 = 80 := fun h9 => by
        have := congrArg Int32.toInt h9
        rw [nI_toInt (by omega)] at this
        have h80 : (80 : Int32).toInt = 80 := rfl
        omega
      refine ⟨jm_I (nI ((aTp A).1 + 1)), aTpW A ((aTp A).1 + 1, upd (aTp A).2 (aTp A).1 x), ⟨hA.1, ⟨by show (aTp A).1 + 1 ≤ 80; omega, fun j hj => ?_⟩, hA.2.2⟩, fun σ hc => ⟨jm_wi (jm_wi σ 6 0 (aTp A).1 x) 5 0 1 (nI ((aTp A).1 + 1)), ?_, ⟨hc.1, ⟨rfl, fun j hj => ?_⟩, hc.2.2⟩, (jm_ag.wi rfl).tr (jm_ag.wi rfl)⟩, fun σ hr => ⟨jm_wi (jm_wi (jm_wi σ 21 0 0 0) 27 0 (aTp A).1 x) 21 0 11 (nI ((aTp A).1 + 1)), ?_, ⟨hr.1, ⟨rfl, fun j hj => ?_⟩, hr.2.2⟩, ((jm_ag.wi rfl).tr (jm_ag.wi rfl)).tr (jm_ag.wi rfl)⟩⟩
      · show 0 ≤ (upd (aTp A).2 (aTp A).1 x j).toInt ∧ (upd (aTp A).2 (aTp A).1 x j).toInt ≤ 255
        by_cases hj2 : j = (aTp A).1
        · subst hj2; rw [pk_us]; omega
        · rw [pk_un hj2]; exact hA.2.1.2 j (by have : j < (aTp A).1 + 1 := hj; omega)
      · rw [gD_feed_0, jm_cf h0, jm_ct h1, gR_takes_0, hc.2.1.1, jm_ct (show nI (aTp A).1 < 80 from nI_lt (b := 80) hlt (by decide)), jm_in_nI hlt (by decide), cond_true, jm_cl (by omega), nI_1, Option.bind_some, jm_ps, gD_feed_22, jm_cf (by decide), gD_feed_37]
        rfl
      · show upd (σ.1 6 0) (aTp A).1 x j = upd (aTp A).2 (aTp A).1 x j
        by_cases hj2 : j = (aTp A).1
        · subst hj2; rw [pk_us, pk_us]
        · rw [pk_un hj2, pk_un hj2]; exact hc.2.1.2 j (by have : j < (aTp A).1 + 1 := hj; omega)
      · have hx := (hr.th 0).2.1.1
        rw [gM_feed_0, r_inK 58 _ x 255 (n := 255) rfl, if_pos h, Option.bind_some, jm_ps, gM_feed_14, jm_ct (by decide), hx, jm_ct hne, jm_in_nI hlt (by decide), cond_true, jm_cl (by omega), nI_1]
      · show upd (σ.1 27 0) (aTp A).1 x j = upd (aTp A).2 (aTp A).1 x j
        by_cases hj2 : j = (aTp A).1
        · subst hj2; rw [pk_us, pk_us]
        · rw [pk_un hj2, pk_un hj2]; exact hr.2.1.2 j (by have : j < (aTp A).1 + 1 := hj; omega)
  · refine ⟨jm_I (-1000001), A, hA, fun σ hc => ⟨σ, ?_, hc, jm_ag.rf⟩, fun σ hr => ⟨jm_wi σ 21 0 0 0, ?_, hr.th 0, jm_ag.wi rfl⟩⟩
    · rw [gD_feed_0, gD_feed_11]
      by_cases h0 : x < 0
      · rw [jm_ct h0]
      · rw [jm_cf h0, jm_cf]
        rw [jm_te32, show (255 : Int32).toInt = 255 from rfl]
        rw [jm_ti32, show (0 : Int32).toInt = 0 from rfl] at h0
        omega
    · rw [gM_feed_0, r_inK 58 _ x 255 (n := 255) rfl, if_neg h, Option.bind_some, jm_ps, gM_feed_14, jm_cf (fun h9 => h9 rfl)]
/-- the frame of the rows -/
abbrev C4 : Nat → Nat → Bool := fun k _ => k == 1 || k == 2 || k == 4
abbrev C24 : Nat → Nat → Bool := fun k _ => k == 22 || k == 23 || k == 24
theorem cRel.rows {σ σ' : jm_S} {A : aS} {R : (Nat → Option (Nat × Nat)) × (Nat → Nat → Int32)} (h : cRel σ A) (ha : jm_ag C4 σ σ') (hR : cRw (σ'.1 1 0) (σ'.1 2 0) (σ'.1 4) (aRoW A R)) : cRel σ' (aRoW A R) := by
  obtain ⟨h1, h2, h3, h4, h5, h6, h7, h8⟩ := h
  refine ⟨hR, ?_, ?_, ?_, ?_, ?_, ?_, ?_⟩
  · rw [(ha 5 0 rfl).1, (ha 6 0 rfl).1]; exact h2
  · exact cS_ag h3 ha rfl (fun w hw => rfl)
  · rw [(ha 10 0 rfl).1, (ha 11 0 rfl).1, (ha 12 0 rfl).1, (ha 13 0 rfl).1]; exact h4
  · intro k hk
    have h9 := h5 k hk
    cases hi : aIm A k with
    | none => rw [hi] at h9; show σ'.1 7 (2 + k) 1 = 0; rw [(ha 7 _ rfl).1]; exact h9
    | some T => rw [hi] at h9; exact cS_ag h9 ha rfl (fun w hw => rfl)
  · rw [(ha 0 0 rfl).1, (ha 20 0 rfl).1]; exact h6
  · rw [(ha 0 0 rfl).1]; exact h7
  · rw [(ha 0 0 rfl).1]; exact h8
theorem rRel.rows {σ σ' : jm_S} {A : aS} {R : (Nat → Option (Nat × Nat)) × (Nat → Nat → Int32)} (h : rRel σ A) (ha : jm_ag C24 σ σ') (hR : rRw (σ'.1 22 0) (σ'.1 23 0) (σ'.1 24 0) (aRoW A R)) : rRel σ' (aRoW A R) := by
  obtain ⟨h1, h2, h3, h4, h5, h6, h7, h8⟩ := h
  refine ⟨hR, ?_, ?_, ?_, ?_, ?_, ?_, ?_⟩
  · rw [(ha 21 0 rfl).1, (ha 27 0 rfl).1]; exact h2
  · rw [(ha 25 0 rfl).1]; exact h3
  · rw [(ha 21 0 rfl).1, (ha 26 0 rfl).1]; exact h4
  · rw [(ha 30 0 rfl).1, (ha 31 0 rfl).1]; exact h5
  · rw [(ha 21 0 rfl).1, (ha 32 0 rfl).1]; exact h6
  · rw [(ha 21 0 rfl).1]; exact h7
  · rw [(ha 21 0 rfl).1]; exact h8
theorem C4_cl {σ σ' : jm_S} (h : jm_ag C4 σ σ') : jm_ag Ccl σ σ' := h.mo (fun k r h9 => by
  have hk : 21 ≤ k := by
    cases hb : Nat.blt k 21 with
    | true => simp only [Ccl, hb] at h9; cases h9
    | false => exact Nat.le_of_not_lt fun q => by rw [show Nat.blt k 21 = true from Nat.ble_eq_true_of_le q] at hb; cases hb
  have : k ≠ 1 ∧ k ≠ 2 ∧ k ≠ 4 := by omega
  simp [C4, this])
theorem C24_rf {σ σ' : jm_S} (h : jm_ag C24 σ σ') : jm_ag Crf σ σ' := h.mo (fun k r h9 => by
  have hk : k < 21 := by
    cases hb : Nat.ble 21 k with
    | true => simp only [Crf, hb] at h9; cases h9
    | false => exact Nat.lt_of_not_le fun q => by rw [Nat.ble_eq_true_of_le q] at hb; cases hb
  have : k ≠ 22 ∧ k ≠ 23 ∧ k ≠ 24 := by omega
  simp [C24, this])
theorem nI_neg1 {n : Nat} (h : n < 2 ^ 31) : ¬ nI n = -1 := fun h9 => by
  have h1 := nI_nneg h
  have h2 : (nI n).toInt = -1 := by rw [h9]; rfl
  omega
theorem c_isMissing (e : Nat) {σ : jm_S} {A : aS} (hc : cRel σ A) (hA : okA A) {r : Nat} (hr : r < 8) : jm_call (e + 1) jD_isMissing [jm_R 0 0, jm_I (nI r)] σ = some (some (jm_I (bI (aRw A r).isNone)), σ) := by
  have h := (hc.1 r hr).1
  rw [gD_isMissing_0, jm_in_nI hr (by decide), cond_true, jm_cl (by omega), gD_isMissing_15, gD_isMissing_15]
  cases hq : aRw A r with
  | none => rw [hq] at h; rw [jm_cf (fun h9 => h9 h)]; rfl
  | some q =>
    rw [hq] at h
    rw [h.1, jm_ct (nI_neg1 (by have := (hA.1 r hr q hq).2; omega))]
    rfl
theorem P_drop {A : aS} (hA : okA A) (x : Int32) : Pair A jD_drop jM_drop [jm_I x] := by
  by_cases h : 0 ≤ x.toInt ∧ x.toInt < 8
  · obtain ⟨r, hr8, rfl⟩ := jm_nI_of (n := 8) h.1 h.2
    have hin : jm_in3 (nI r) 8 = true := jm_in_nI hr8 (by decide)
    have hcl : (nI r).toNatClampNeg = r := jm_cl (by omega)
    cases hq : aRw A r with
    | none =>
      refine ⟨jm_I (-1000010 - 1), aFdW A 1, hA.fd _, fun σ hc => ⟨_, ?_, hc.fd 1, jm_ag.wi rfl⟩, fun σ hr => ⟨_, ?_, ((hr.th 0).fd 0).fd 1, ((jm_ag.wi rfl).tr (jm_ag.wi rfl)).tr (jm_ag.wi rfl)⟩⟩
      · rw [gD_drop_0, c_isRow, if_pos h, Option.bind_some, jm_ps, gD_drop_4, jm_ct (by decide), c_isMissing 58 hc hA hr8, hq, Option.bind_some, jm_ps, gD_drop_15, jm_cf (by decide), gD_found_0, Option.bind_some, jm_ps, gD_drop_23]
      · have h1 := (hr.1 r hr8).1
        rw [hq] at h1
        rw [gM_drop_0, r_isRow, if_pos h, Option.bind_some, jm_ps, gM_drop_9, jm_ct (by decide), hin, cond_true, hcl]
        have h2 : (jm_wi σ 21 0 0 0).1 22 0 r = -1 := h1
        rw [h2, jm_cf (by decide), gM_finding_0, Option.bind_some, jm_ps, gM_drop_34]
    | some q =>
      have hq2 := hA.1 r hr8 q hq
      have hok : okA (aRoW A (fun r' => if r' = r then none else aRw A r', aIt A)) := by
        refine ⟨fun r' hr' q' h9 => ?_, hA.2⟩
        have h9 : (if r' = r then none else aRw A r') = some q' := h9
        by_cases h8 : r' = r
        · rw [if_pos h8] at h9; cases h9
        · rw [if_neg h8] at h9; exact hA.1 r' hr' q' h9
      have hcw : ∀ σ, cRel σ A → cRw ((jm_wi σ 2 0 r (-1)).1 1 0) ((jm_wi σ 2 0 r (-1)).1 2 0) ((jm_wi σ 2 0 r (-1)).1 4) (aRoW A (fun r' => if r' = r then none else aRw A r', aIt A)) := by
        intro σ hc r' hr'
        refine ⟨?_, (hc.1 r' hr').2⟩
        show (match (if r' = r then none else aRw A r') with | none => upd (σ.1 2 0) r (-1) r' = -1 | some q => upd (σ.1 2 0) r (-1) r' = nI q.2 ∧ σ.1 1 0 r' = nI q.1)
        by_cases h8 : r' = r
        · subst h8; rw [if_pos rfl]; exact pk_us
        · rw [if_neg h8, pk_un h8]; exact (hc.1 r' hr').1
      have hrw : ∀ σ, rRel σ A → rRw ((jm_wi (jm_wi (jm_wi σ 21 0 0 0) 21 0 1 0) 22 0 r (-1)).1 22 0) ((jm_wi (jm_wi (jm_wi σ 21 0 0 0) 21 0 1 0) 22 0 r (-1)).1 23 0) ((jm_wi (jm_wi (jm_wi σ 21 0 0 0) 21 0 1 0) 22 0 r (-1)).1 24 0) (aRoW (aFdW A 0) (fun r' => if r' = r then none else aRw A r', aIt A)) := by
        intro σ hr r' hr'
        refine ⟨?_, (hr.1 r' hr').2⟩
        show (match (if r' = r then none else aRw A r') with | none => upd (σ.1 22 0) r (-1) r' = -1 | some q => σ.1 23 0 r' = nI q.2 ∧ upd (σ.1 22 0) r (-1) r' = nI q.1)
        by_cases h8 : r' = r
        · subst h8; rw [if_pos rfl]; exact pk_us
        · rw [if_neg h8, pk_un h8]; exact (hr.1 r' hr').1
      refine ⟨jm_I (nI q.2), aFdW (aRoW A (fun r' => if r' = r then none else aRw A r', aIt A)) 0, hok.fd 0, fun σ hc => ⟨jm_wi (jm_wi σ 2 0 r (-1)) 0 0 13 0, ?_, (cRel.rows hc (jm_ag.wi rfl) (hcw σ hc)).fd 0, (jm_ag.wi rfl).tr (jm_ag.wi rfl)⟩, fun σ hr => ⟨jm_wi (jm_wi (jm_wi σ 21 0 0 0) 21 0 1 0) 22 0 r (-1), ?_, rRel.rows (A := aFdW A 0) ((hr.th 0).fd 0) (jm_ag.wi rfl) (hrw σ hr), ((jm_ag.wi rfl).tr (jm_ag.wi rfl)).tr (jm_ag.wi rfl)⟩⟩
      · have h1 := (hc.1 r hr8).1
        rw [hq] at h1
        rw [gD_drop_0, c_isRow, if_pos h, Option.bind_some, jm_ps, gD_drop_4, jm_ct (by decide), c_isMissing 58 hc hA hr8, hq, Option.bind_some, jm_ps, gD_drop_15, jm_ct (show bI (some q).isNone = 0 from rfl), hin, cond_true, cond_true, hcl, gD_clean_0, Option.bind_some, jm_ps, gD_drop_43, h1.1]
      · have h1 := (hr.1 r hr8).1
        rw [hq] at h1
        have h2 : (jm_wi σ 21 0 0 0).1 22 0 r = nI q.1 := h1.2
        have h3 : (jm_wi σ 21 0 0 0).1 23 0 r = nI q.2 := h1.1
        rw [gM_drop_0, r_isRow, if_pos h, Option.bind_some, jm_ps, gM_drop_9, jm_ct (by decide), hin, cond_true, cond_true, cond_true, hcl, h2, jm_ct (nI_pos' (by omega)), h3]
  · refine ⟨jm_I (-1000001), A, hA, fun σ hc => ⟨σ, ?_, hc, jm_ag.rf⟩, fun σ hr => ⟨jm_wi σ 21 0 0 0, ?_, hr.th 0, jm_ag.wi rfl⟩⟩
    · rw [gD_drop_0, c_isRow, if_neg h, Option.bind_some, jm_ps, gD_drop_4, jm_cf (fun h9 => h9 rfl)]
    · rw [gM_drop_0, r_isRow, if_neg h, Option.bind_some, jm_ps, gM_drop_9, jm_cf (fun h9 => h9 rfl)]
