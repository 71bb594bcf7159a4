-- METHODS: row, set
theorem c_rowL (σ0 : jm_S) (x2 x3 : Int32) {r : Nat} (hr : r < 8) : ∀ (f k : Nat) (σ : jm_S), k + f = 40 → jm_ag C4 σ0 σ → σ.1 1 = σ0.1 1 → σ.1 2 = σ0.1 2 → (∀ r', r' ≠ r → σ.1 4 r' = σ0.1 4 r') → (∀ i, i < k → σ.1 4 r i = 0) → ∃ σ', jm_ev 59 (jD_row, 52, [some (jm_R 0 0), some (jm_I (nI r)), some (jm_I x2), some (jm_I x3), some (jm_I (nI k))], [], σ) = some (some (jm_I x3), jm_wi σ' 0 0 13 0) ∧ jm_ag C4 σ0 σ' ∧ σ'.1 1 = σ0.1 1 ∧ σ'.1 2 = σ0.1 2 ∧ (∀ r', r' ≠ r → σ'.1 4 r' = σ0.1 4 r') ∧ ∀ i, i < 40 → σ'.1 4 r i = 0
  | 0, k, σ, h, ha, h1, h2, h3, h4 => by
    have : k = 40 := by omega
    subst this
    exact ⟨σ, by rw [gD_row_52, jm_ct (show (40 : Int32) ≤ nI 40 by decide), gD_clean_0, Option.bind_some, jm_ps, gD_row_80], ha, h1, h2, h3, h4⟩
  | f + 1, k, σ, h, ha, h1, h2, h3, h4 => by
    obtain ⟨σ', e1, e2⟩ := c_rowL σ0 x2 x3 hr f (k + 1) (jm_wi σ 4 r k 0) (by omega) (ha.tr (jm_ag.wi rfl)) h1 h2 (fun r' h9 => (jm_w_n σ k 0 (fun q => h9 q.2)).trans (h3 r' h9)) (fun i hi => by
      rw [jm_w_s]
      by_cases hk : i = k
      · subst hk; exact pk_us
      · rw [pk_un hk]; exact h4 i (by omega))
    refine ⟨σ', ?_, e2⟩
    rw [gD_row_52, jm_cf (show ¬ (40 : Int32) ≤ nI k from nI_ge (b := 40) (by omega) (by decide)), jm_in_nI hr (by decide), cond_true, jm_in_nI (show k < 40 by omega) (by decide), cond_true, jm_cl (by omega), jm_cl (by omega), nI_1, e1]
theorem r_rowL (σ0 : jm_S) (x2 x3 : Int32) {r : Nat} (hr : r < 8) : ∀ (f k : Nat) (σ : jm_S), k + f = 40 → jm_ag C24 σ0 σ → σ.1 22 = σ0.1 22 → σ.1 23 = σ0.1 23 → (∀ j, (j < 40 * r ∨ 40 * r + 40 ≤ j) → σ.1 24 0 j = σ0.1 24 0 j) → (∀ i, i < k → σ.1 24 0 (40 * r + i) = 0) → ∃ σ', jm_ev 59 (jM_row, 65, [some (jm_R 21 0), some (jm_I (nI r)), some (jm_I x2), some (jm_I x3), some (jm_I (nI k))], [], σ) = some (some (jm_I x3), σ') ∧ jm_ag C24 σ0 σ' ∧ σ'.1 22 = σ0.1 22 ∧ σ'.1 23 = σ0.1 23 ∧ (∀ j, (j < 40 * r ∨ 40 * r + 40 ≤ j) → σ'.1 24 0 j = σ0.1 24 0 j) ∧ ∀ i, i < 40 → σ'.1 24 0 (40 * r + i) = 0
  | 0, k, σ, h, ha, h1, h2, h3, h4 => by
    have : k = 40 := by omega
    subst this
    exact ⟨σ, by rw [gM_row_65, jm_ct (show (40 : Int32) ≤ nI 40 by decide)], ha, h1, h2, h3, h4⟩
  | f + 1, k, σ, h, ha, h1, h2, h3, h4 => by
    obtain ⟨σ', e1, e2⟩ := r_rowL σ0 x2 x3 hr f (k + 1) (jm_wi σ 24 0 (40 * r + k) 0) (by omega) (ha.tr (jm_ag.wi rfl)) h1 h2 (fun j h9 => by
      rw [jm_w_s, pk_un (by omega)]; exact h3 j h9) (fun i hi => by
      rw [jm_w_s]
      by_cases hk : i = k
      · subst hk; exact pk_us
      · rw [pk_un (by omega)]; exact h4 i (by omega))
    refine ⟨σ', ?_, e2⟩
    rw [gM_row_65, jm_cf (show ¬ (40 : Int32) ≤ nI k from nI_ge (b := 40) (by omega) (by decide)), show (40 : Int32) * nI r + nI k = nI (40 * r + k) from by rw [show (40 : Int32) = nI 40 from rfl, pk_mul, nI_add], jm_in_nI (show 40 * r + k < 320 by omega) (by decide), cond_true, jm_cl (by omega), nI_1, e1]
/-- a row laid anew -/
def rwN (A : aS) (r l n : Nat) : (Nat → Option (Nat × Nat)) × (Nat → Nat → Int32) := (fun r' => if r' = r then some (l, n) else aRw A r', fun r' i => if r' = r then 0 else aIt A r' i)
theorem P_row {A : aS} (hA : okA A) (x y z : Int32) : Pair A jD_row jM_row [jm_I x, jm_I y, jm_I z] := by
  by_cases hx : 0 ≤ x.toInt ∧ x.toInt < 8
  · by_cases hy : 0 ≤ y.toInt ∧ y.toInt ≤ (2 : Nat)
    · have hy0 : ¬ y < 0 := by rw [jm_ti32, show (0 : Int32).toInt = 0 from rfl]; omega
      have hy1 : ¬ (2 : Int32) < y := by rw [jm_ti32, show (2 : Int32).toInt = 2 from rfl]; omega
      by_cases hz : z ≤ 40
      · by_cases hz0 : 0 ≤ z
        · obtain ⟨r, hr8, rfl⟩ := jm_nI_of (n := 8) hx.1 hx.2
          obtain ⟨l, hl, rfl⟩ := jm_nI_of (n := 3) hy.1 (by omega)
          rw [jm_te32, show (40 : Int32).toInt = 40 from rfl] at hz
          rw [jm_te32, show (0 : Int32).toInt = 0 from rfl] at hz0
          obtain ⟨n, hn, rfl⟩ := jm_nI_of (x := z) (n := 41) hz0 (by omega)
          have hin : jm_in3 (nI r) 8 = true := jm_in_nI hr8 (by decide)
          have hcl : (nI r).toNatClampNeg = r := jm_cl (by omega)
          have hz1 : nI n ≤ 40 := nI_le (b := 40) (by omega) (by decide)
          have hz2 : 0 ≤ nI n := nI_pos' (by omega)
          have hok : okA (aRoW A (rwN A r l n)) := by
            refine ⟨fun r' hr' q' h9 => ?_, hA.2⟩
            have h9 : (if r' = r then some (l, n) else aRw A r') = some q' := h9
            by_cases h8 : r' = r
            · rw [if_pos h8] at h9; cases h9; exact ⟨by show l ≤ 2; omega, by show n ≤ 40; omega⟩
            · rw [if_neg h8] at h9; exact hA.1 r' hr' q' h9
          refine ⟨jm_I (nI n), aFdW (aRoW A (rwN A r l n)) 0, hok.fd 0, fun σ hc => ?_, fun σ hr => ?_⟩
          · obtain ⟨σ', e1, e2, e3, e4, e5, e6⟩ := c_rowL (jm_wi (jm_wi σ 1 0 r (nI l)) 2 0 r (nI n)) (nI l) (nI n) hr8 40 0 (jm_wi (jm_wi σ 1 0 r (nI l)) 2 0 r (nI n)) rfl jm_ag.rf rfl rfl (fun _ _ => rfl) (fun i hi => by omega)
            have hag : jm_ag C4 σ σ' := ((jm_ag.wi rfl).tr (jm_ag.wi rfl)).tr e2
            have hcw : cRw (σ'.1 1 0) (σ'.1 2 0) (σ'.1 4) (aRoW A (rwN A r l n)) := by
              intro r' hr'
              rw [e3, e4]
              show (match (if r' = r then some (l, n) else aRw A r') with | none => upd (σ.1 2 0) r (nI n) r' = -1 | some q => upd (σ.1 2 0) r (nI n) r' = nI q.2 ∧ upd (σ.1 1 0) r (nI l) r' = nI q.1) ∧ ∀ i, i < 40 → σ'.1 4 r' i = if r' = r then 0 else aIt A r' i
              by_cases h8 : r' = r
              · subst h8
                rw [if_pos rfl]
                exact ⟨⟨pk_us, pk_us⟩, fun i hi => (e6 i hi).trans (if_pos rfl).symm⟩
              · rw [if_neg h8, pk_un h8, pk_un h8, e5 r' h8]
                refine ⟨(hc.1 r' hr').1, fun i hi => ?_⟩
                rw [if_neg h8]
                exact (hc.1 r' hr').2 i hi
            refine ⟨_, ?_, (cRel.rows hc hag hcw).fd 0, (C4_cl hag).tr (jm_ag.wi rfl)⟩
            rw [gD_row_0, c_isRow, if_pos hx, Option.bind_some, jm_ps, gD_row_4, jm_cf (by decide), jm_cf hy0, jm_cf hy1, jm_ct hz1, jm_ct hz2, hin, cond_true, cond_true, hcl]
            exact e1
          · obtain ⟨σ', e1, e2, e3, e4, e5, e6⟩ := r_rowL (jm_wi (jm_wi (jm_wi (jm_wi σ 21 0 0 0) 21 0 1 0) 22 0 r (nI l)) 23 0 r (nI n)) (nI l) (nI n) hr8 40 0 (jm_wi (jm_wi (jm_wi (jm_wi σ 21 0 0 0) 21 0 1 0) 22 0 r (nI l)) 23 0 r (nI n)) rfl jm_ag.rf rfl rfl (fun _ _ => rfl) (fun i hi => by omega)
            have hag : jm_ag C24 (jm_wi (jm_wi σ 21 0 0 0) 21 0 1 0) σ' := ((jm_ag.wi rfl).tr (jm_ag.wi rfl)).tr e2
            have hrw : rRw (σ'.1 22 0) (σ'.1 23 0) (σ'.1 24 0) (aRoW (aFdW A 0) (rwN A r l n)) := by
              intro r' hr'
              rw [e3, e4]
              show (match (if r' = r then some (l, n) else aRw A r') with | none => upd (σ.1 22 0) r (nI l) r' = -1 | some q => upd (σ.1 23 0) r (nI n) r' = nI q.2 ∧ upd (σ.1 22 0) r (nI l) r' = nI q.1) ∧ ∀ i, i < 40 → σ'.1 24 0 (40 * r' + i) = if r' = r then 0 else aIt A r' i
              by_cases h8 : r' = r
              · subst h8
                rw [if_pos rfl]
                exact ⟨⟨pk_us, pk_us⟩, fun i hi => (e6 i hi).trans (if_pos rfl).symm⟩
              · rw [if_neg h8, pk_un h8, pk_un h8]
                refine ⟨(hr.1 r' hr').1, fun i hi => ?_⟩
                rw [if_neg h8, e5 (40 * r' + i) (by omega)]
                exact (hr.1 r' hr').2 i hi
            refine ⟨σ', ?_, rRel.rows (A := aFdW A 0) ((hr.th 0).fd 0) hag hrw, ((jm_ag.wi rfl).tr (jm_ag.wi rfl)).tr (C24_rf hag)⟩
            rw [gM_row_0, r_isRow, if_pos hx, Option.bind_some, jm_ps, gM_row_9, jm_cf (by decide), r_inK 58 _ _ 2 (n := 2) rfl, if_pos hy, Option.bind_some, jm_ps, gM_row_21, jm_cf (by decide), jm_ct hz1, jm_ct hz2, hin, cond_true, cond_true, hcl]
            exact e1
        · refine ⟨jm_I (-1000010 - 4), aFdW A 4, hA.fd _, fun σ hc => ⟨jm_wi σ 0 0 13 4, ?_, hc.fd 4, jm_ag.wi rfl⟩, fun σ hr => ⟨jm_wi (jm_wi (jm_wi σ 21 0 0 0) 21 0 1 0) 21 0 1 4, ?_, ((hr.th 0).fd 0).fd 4, ((jm_ag.wi rfl).tr (jm_ag.wi rfl)).tr (jm_ag.wi rfl)⟩⟩
          · rw [gD_row_0, c_isRow, if_pos hx, Option.bind_some, jm_ps, gD_row_4, jm_cf (by decide), jm_cf hy0, jm_cf hy1, jm_ct hz, jm_cf hz0, gD_found_0, Option.bind_some, jm_ps, gD_row_34]
          · rw [gM_row_0, r_isRow, if_pos hx, Option.bind_some, jm_ps, gM_row_9, jm_cf (by decide), r_inK 58 _ _ 2 (n := 2) rfl, if_pos hy, Option.bind_some, jm_ps, gM_row_21, jm_cf (by decide), jm_ct hz, jm_cf hz0, gM_finding_0, Option.bind_some, jm_ps, gM_row_47]
      · refine ⟨jm_I (-1000001), A, hA, fun σ hc => ⟨σ, ?_, hc, jm_ag.rf⟩, fun σ hr => ⟨jm_wi σ 21 0 0 0, ?_, hr.th 0, jm_ag.wi rfl⟩⟩
        · rw [gD_row_0, c_isRow, if_pos hx, Option.bind_some, jm_ps, gD_row_4, jm_cf (by decide), jm_cf hy0, jm_cf hy1, jm_cf hz, gD_row_22]
        · rw [gM_row_0, r_isRow, if_pos hx, Option.bind_some, jm_ps, gM_row_9, jm_cf (by decide), r_inK 58 _ _ 2 (n := 2) rfl, if_pos hy, Option.bind_some, jm_ps, gM_row_21, jm_cf (by decide), jm_cf hz, gM_row_30]
    · refine ⟨jm_I (-1000001), A, hA, fun σ hc => ⟨σ, ?_, hc, jm_ag.rf⟩, fun σ hr => ⟨jm_wi σ 21 0 0 0, ?_, hr.th 0, jm_ag.wi rfl⟩⟩
      · rw [gD_row_0, c_isRow, if_pos hx, Option.bind_some, jm_ps, gD_row_4, jm_cf (by decide), gD_row_22]
        by_cases h0 : y < 0
        · rw [jm_ct h0]
        · rw [jm_cf h0, jm_ct]
          rw [jm_ti32, show (2 : Int32).toInt = 2 from rfl]
          rw [jm_ti32, show (0 : Int32).toInt = 0 from rfl] at h0
          omega
      · rw [gM_row_0, r_isRow, if_pos hx, Option.bind_some, jm_ps, gM_row_9, jm_cf (by decide), r_inK 58 _ _ 2 (n := 2) rfl, if_neg hy, Option.bind_some, jm_ps, gM_row_21, jm_ct rfl, gM_row_30]
  · refine ⟨jm_I (-1000001), A, hA, fun σ hc => ⟨σ, ?_, hc, jm_ag.rf⟩, fun σ hr => ⟨jm_wi σ 21 0 0 0, ?_, hr.th 0, jm_ag.wi rfl⟩⟩
    · rw [gD_row_0, c_isRow, if_neg hx, Option.bind_some, jm_ps, gD_row_4, jm_ct rfl, gD_row_22]
    · rw [gM_row_0, r_isRow, if_neg hx, Option.bind_some, jm_ps, gM_row_9, jm_ct rfl, gM_row_30]
theorem c_isWithin (e : Nat) {σ : jm_S} {A : aS} (hc : cRel σ A) (hA : okA A) {r : Nat} (hr : r < 8) {q : Nat × Nat} (hq : aRw A r = some q) (x y : Int32) : jm_call (e + 1) jD_isWithin [jm_R 0 0, jm_I (nI r), jm_I x, jm_I y] σ = some (some (jm_I (if 0 ≤ x.toInt ∧ 0 ≤ y.toInt ∧ x.toInt + y.toInt ≤ q.2 then 1 else 0)), σ) := by
  have h := (hc.1 r hr).1
  rw [hq] at h
  have h40 := (hA.1 r hr q hq).2
  have h0 : (0 : Int32).toInt = 0 := rfl
  have hin : jm_in3 (nI r) 8 = true := jm_in_nI hr (by decide)
  rw [gD_isWithin_0, gD_isWithin_34, gD_isWithin_35, gD_isWithin_35, hin, cond_true, cond_true, jm_cl (by omega), h.1, jm_b0, cond_true, jm_b1, cond_true]
  by_cases h1 : x < 0
  · rw [jm_ct h1, if_neg]
    rw [jm_ti32] at h1; omega
  · rw [jm_cf h1]
    rw [jm_ti32] at h1
    by_cases h2 : y < 0
    · rw [jm_ct h2, if_neg]
      rw [jm_ti32] at h2; omega
    · rw [jm_cf h2]
      rw [jm_ti32] at h2
      by_cases h3 : nI q.2 < y
      · rw [jm_ct h3, if_neg]
        rw [jm_ti32, nI_toInt (by omega)] at h3; omega
      · rw [jm_cf h3]
        rw [jm_ti32, nI_toInt (by omega)] at h3
        obtain ⟨b, hb, rfl⟩ := jm_nI_of (x := y) (n := 41) (by omega) (by omega)
        rw [nI_toInt (by omega)] at h3 ⊢
        have hd : (nI q.2 - nI b).toInt = (q.2 : Int) - b := pk_sub_toInt (by omega) (by omega)
        by_cases h4 : nI q.2 - nI b < x
        · rw [jm_ct h4, if_neg]
          rw [jm_ti32, hd] at h4; omega
        · rw [jm_cf h4, if_pos]
          rw [jm_ti32, hd] at h4; omega
def nrw (l : Nat) (x : Int32) : Int32 := if l = 0 then x.toInt8.toInt32 else if l = 1 then x.toInt16.toInt32 else x
theorem c_narrowed (e : Nat) (σ : jm_S) {l : Nat} (hl : l ≤ 2) (x : Int32) : jm_call (e + 1) jD_narrowed [jm_I (nI l), jm_I x] σ = some (some (jm_I (nrw l x)), σ) := by
  rw [gD_narrowed_0, gD_narrowed_18, gD_narrowed_18]
  rcases (show l = 0 ∨ l = 1 ∨ l = 2 by omega) with rfl | rfl | rfl <;> rfl
theorem r_setW (σ : jm_S) {r l i : Nat} (hr : r < 8) (hi : i < 40) (hl : l ≤ 2) (x : Int32) (h22 : σ.1 22 0 r = nI l) : jm_ev 59 (jM_set, 50, [some (jm_R 21 0), some (jm_I (nI r)), some (jm_I (nI i)), some (jm_I x)], [jm_I 1], σ) = some (some (jm_I (nrw l x)), jm_wi σ 24 0 (40 * r + i) (nrw l x)) := by
  have hin : jm_in3 (nI r) 8 = true := jm_in_nI hr (by decide)
  have he : (40 : Int32) * nI r + nI i = nI (40 * r + i) := by rw [show (40 : Int32) = nI 40 from rfl, pk_mul, nI_add]
  have hv : ∀ v, (jm_wi σ 24 0 (40 * r + i) v).1 24 0 (40 * r + i) = v := fun v => by rw [jm_w_s, pk_us]
  rw [gM_set_50, jm_ct (by decide), hin, cond_true, cond_true, jm_cl (by omega), h22]
  simp only [gM_set_99, he, jm_in_nI (show 40 * r + i < 320 by omega) (by decide), cond_true, jm_cl (show 40 * r + i < 2 ^ 31 by omega), hv]
  rcases (show l = 0 ∨ l = 1 ∨ l = 2 by omega) with rfl | rfl | rfl <;> rfl
def itW (A : aS) (r i : Nat) (v : Int32) : Nat → Nat → Int32 := fun r' i' => if r' = r ∧ i' = i then v else aIt A r' i'
theorem P_set {A : aS} (hA : okA A) (x y z : Int32) : Pair A jD_set jM_set [jm_I x, jm_I y, jm_I z] := by
  by_cases hx : 0 ≤ x.toInt ∧ x.toInt < 8
  · obtain ⟨r, hr8, rfl⟩ := jm_nI_of (n := 8) hx.1 hx.2
    have hin : jm_in3 (nI r) 8 = true := jm_in_nI hr8 (by decide)
    have hcl : (nI r).toNatClampNeg = r := jm_cl (by omega)
    cases hq : aRw A r with
    | none =>
      refine ⟨jm_I (-1000010 - 1), aFdW A 1, hA.fd _, fun σ hc => ⟨jm_wi σ 0 0 13 1, ?_, hc.fd 1, jm_ag.wi rfl⟩, fun σ hr => ⟨jm_wi (jm_wi (jm_wi σ 21 0 0 0) 21 0 1 0) 21 0 1 1, ?_, ((hr.th 0).fd 0).fd 1, ((jm_ag.wi rfl).tr (jm_ag.wi rfl)).tr (jm_ag.wi rfl)⟩⟩
      · rw [gD_set_0, c_isRow, if_pos hx, Option.bind_some, jm_ps, gD_set_4, jm_ct (by decide), c_isMissing 58 hc hA hr8, hq, Option.bind_some, jm_ps, gD_set_15, jm_cf (by decide), gD_found_0, Option.bind_some, jm_ps, gD_set_23]
      · have h1 := (hr.1 r hr8).1
        rw [hq] at h1
        have h2 : (jm_wi σ 21 0 0 0).1 22 0 r = -1 := h1
        rw [gM_set_0, r_isRow, if_pos hx, Option.bind_some, jm_ps, gM_set_9, jm_ct (by decide), hin, cond_true, hcl, h2, jm_cf (by decide), gM_finding_0, Option.bind_some, jm_ps, gM_set_34]
    | some q =>
      have hq2 := hA.1 r hr8 q hq
      have hrin : ∀ σ : jm_S, rRel σ A → ∀ σ', jm_call 59 jM_in [jm_L y.toInt64, jm_L 0, jm_L (((σ.1 23 0 r) - 1).toInt64)] σ' = some (some (jm_I (if 0 ≤ y.toInt ∧ y.toInt < q.2 then 1 else 0)), σ') := by
        intro σ hr σ'
        have h1 := (hr.1 r hr8).1
        rw [hq] at h1
        rw [r_in, h1.1]
        simp only [jm_i64, show (0 : Int64).toInt = 0 from rfl, nI_m1 (show q.2 < 2 ^ 30 by omega)]
        by_cases h : 0 ≤ y.toInt ∧ y.toInt < q.2
        · rw [if_pos (by omega), if_pos h]
        · rw [if_neg (by omega), if_neg h]
      have h2 : ∀ σ : jm_S, rRel σ A → (jm_wi σ 21 0 0 0).1 22 0 r = nI q.1 := fun σ hr => by
        have h1 := (hr.1 r hr8).1
        rw [hq] at h1
        exact h1.2
      by_cases hy : 0 ≤ y.toInt ∧ y.toInt < q.2
      · obtain ⟨i, hi, rfl⟩ := jm_nI_of hy.1 hy.2
        have hw : 0 ≤ (nI i).toInt ∧ 0 ≤ (1 : Int32).toInt ∧ (nI i).toInt + (1 : Int32).toInt ≤ q.2 := by
          have : (1 : Int32).toInt = 1 := rfl
          omega
        have hcw : ∀ σ, cRel σ A → cRw ((jm_wi σ 4 r i (nrw q.1 z)).1 1 0) ((jm_wi σ 4 r i (nrw q.1 z)).1 2 0) ((jm_wi σ 4 r i (nrw q.1 z)).1 4) (aRoW A (aRw A, itW A r i (nrw q.1 z))) := by
          intro σ hc r' hr'
          refine ⟨(hc.1 r' hr').1, fun i' hi' => ?_⟩
          show _ = if r' = r ∧ i' = i then nrw q.1 z else aIt A r' i'
          by_cases h8 : r' = r
          · subst h8
            rw [jm_w_s]
            by_cases h7 : i' = i
            · subst h7; rw [pk_us, if_pos ⟨rfl, rfl⟩]
            · rw [pk_un h7, if_neg (fun h9 => h7 h9.2)]; exact (hc.1 r' hr').2 i' hi'
          · rw [jm_w_n _ _ _ (fun h9 => h8 h9.2), if_neg (fun h9 => h8 h9.1)]; exact (hc.1 r' hr').2 i' hi'
        have hrw : ∀ σ, rRel σ A → rRw ((jm_wi (jm_wi (jm_wi σ 21 0 0 0) 21 0 1 0) 24 0 (40 * r + i) (nrw q.1 z)).1 22 0) ((jm_wi (jm_wi (jm_wi σ 21 0 0 0) 21 0 1 0) 24 0 (40 * r + i) (nrw q.1 z)).1 23 0) ((jm_wi (jm_wi (jm_wi σ 21 0 0 0) 21 0 1 0) 24 0 (40 * r + i) (nrw q.1 z)).1 24 0) (aRoW (aFdW A 0) (aRw A, itW A r i (nrw q.1 z))) := by
          intro σ hr r' hr'
          refine ⟨(hr.1 r' hr').1, fun i' hi' => ?_⟩
          show upd (σ.1 24 0) (40 * r + i) (nrw q.1 z) (40 * r' + i') = if r' = r ∧ i' = i then nrw q.1 z else aIt A r' i'
          by_cases h8 : r' = r ∧ i' = i
          · rw [h8.1, h8.2, pk_us, if_pos ⟨rfl, rfl⟩]
          · rw [pk_un (by omega), if_neg h8]; exact (hr.1 r' hr').2 i' hi'
        refine ⟨jm_I (nrw q.1 z), aFdW (aRoW A (aRw A, itW A r i (nrw q.1 z))) 0, hA.fd 0, fun σ hc => ⟨jm_wi (jm_wi σ 4 r i (nrw q.1 z)) 0 0 13 0, ?_, (cRel.rows hc (jm_ag.wi rfl) (hcw σ hc)).fd 0, (jm_ag.wi rfl).tr (jm_ag.wi rfl)⟩, fun σ hr => ⟨jm_wi (jm_wi (jm_wi σ 21 0 0 0) 21 0 1 0) 24 0 (40 * r + i) (nrw q.1 z), ?_, rRel.rows (A := aFdW A 0) ((hr.th 0).fd 0) (jm_ag.wi rfl) (hrw σ hr), ((jm_ag.wi rfl).tr (jm_ag.wi rfl)).tr (jm_ag.wi rfl)⟩⟩
        · have h1 := (hc.1 r hr8).1
          rw [hq] at h1
          rw [gD_set_0, c_isRow, if_pos hx, Option.bind_some, jm_ps, gD_set_4, jm_ct (by decide), c_isMissing 58 hc hA hr8, hq, Option.bind_some, jm_ps, gD_set_15, jm_ct (show bI (some q).isNone = 0 from rfl), c_isWithin 58 hc hA hr8 hq, if_pos hw, Option.bind_some, jm_ps, gD_set_31, jm_ct (by decide), hin, cond_true, cond_true, hcl, h1.2, c_narrowed 58 σ hq2.1, Option.bind_some, jm_ps, gD_set_57, jm_in_nI (show i < 40 by omega) (by decide), cond_true, hin, cond_true, cond_true, hcl, jm_cl (by omega), jm_w_s, pk_us, gD_clean_0, Option.bind_some, jm_ps, gD_set_70]
        · rw [gM_set_0, r_isRow, if_pos hx, Option.bind_some, jm_ps, gM_set_9, jm_ct (by decide), hin, cond_true, cond_true, hcl, h2 σ hr, jm_ct (nI_pos' (by omega)), hrin _ (hr.th 0), if_pos hy, Option.bind_some, jm_ps, r_setW (jm_wi (jm_wi σ 21 0 0 0) 21 0 1 0) (i := i) hr8 (by omega) hq2.1 z (h2 σ hr)]
      · have hw : ¬ (0 ≤ y.toInt ∧ 0 ≤ (1 : Int32).toInt ∧ y.toInt + (1 : Int32).toInt ≤ q.2) := by
          have : (1 : Int32).toInt = 1 := rfl
          omega
        refine ⟨jm_I (-1000010 - 2), aFdW A 2, hA.fd _, fun σ hc => ⟨jm_wi σ 0 0 13 2, ?_, hc.fd 2, jm_ag.wi rfl⟩, fun σ hr => ⟨jm_wi (jm_wi (jm_wi σ 21 0 0 0) 21 0 1 0) 21 0 1 2, ?_, ((hr.th 0).fd 0).fd 2, ((jm_ag.wi rfl).tr (jm_ag.wi rfl)).tr (jm_ag.wi rfl)⟩⟩
        · rw [gD_set_0, c_isRow, if_pos hx, Option.bind_some, jm_ps, gD_set_4, jm_ct (by decide), c_isMissing 58 hc hA hr8, hq, Option.bind_some, jm_ps, gD_set_15, jm_ct (show bI (some q).isNone = 0 from rfl), c_isWithin 58 hc hA hr8 hq, if_neg hw, Option.bind_some, jm_ps, gD_set_31, jm_cf (fun h9 => h9 rfl), gD_found_0, Option.bind_some, jm_ps, gD_set_39]
        · rw [gM_set_0, r_isRow, if_pos hx, Option.bind_some, jm_ps, gM_set_9, jm_ct (by decide), hin, cond_true, cond_true, hcl, h2 σ hr, jm_ct (nI_pos' (by omega)), hrin _ (hr.th 0), if_neg hy, Option.bind_some, jm_ps, gM_set_50, jm_cf (fun h9 => h9 rfl), gM_finding_0, Option.bind_some, jm_ps, gM_set_58]
  · refine ⟨jm_I (-1000001), A, hA, fun σ hc => ⟨σ, ?_, hc, jm_ag.rf⟩, fun σ hr => ⟨jm_wi σ 21 0 0 0, ?_, hr.th 0, jm_ag.wi rfl⟩⟩
    · rw [gD_set_0, c_isRow, if_neg hx, Option.bind_some, jm_ps, gD_set_4, jm_cf (fun h9 => h9 rfl)]
    · rw [gM_set_0, r_isRow, if_neg hx, Option.bind_some, jm_ps, gM_set_9, jm_cf (fun h9 => h9 rfl)]
