-- METHODS: who, the reference and the pair
def uq (q : Nat) : Nat := if q = 0 then 3 else if q = 1 then 0 else 1
def lq (q : Nat) : Nat := if q ≤ 1 then 1 else 0
def nq (q : Nat) : Nat := if q ≤ 1 then 5 else 41
def whV (q : Nat) (W : Int32 × Nat × Int32) : Int32 := if q ≤ 1 then W.1 else if q = 2 then nI W.2.1 else W.2.2
theorem okK_put {S : sS} (h : okK S) {u i v : Nat} (hv : u = 3 → v ≤ 5) : okK (sPut S u i (nI v)) := by
  refine ⟨h.1, fun d hd => ?_⟩
  show (if 3 = u ∧ d = i then nI v else S.2.2 3 d).toInt ≤ 5
  by_cases h9 : 3 = u ∧ d = i
  · rw [if_pos h9]
    have := hv h9.1.symm
    rw [nI_toInt (by omega)]
    omega
  · rw [if_neg h9]; exact h.2 d hd
theorem or0 (x : Int32) : x ||| 0 = x := by simp
theorem r_whL (σ0 : jm_S) (x6 : Int32) {S : sS} {q i r a m : Nat} {g : Nat → Int32} (hK : okK S) (hs : rS (σ0.1 25 0) S) (hq : q ≤ 3) (hi : i < S.1) (hr : r < 8) (ham : a + m ≤ 40) (hm1 : 1 ≤ m) (hm6 : m ≤ 6) (hg : ∀ k, k < m → σ0.1 24 0 (40 * r + a + k) = g k) : ∀ (f j : Nat) (σ : jm_S), j + f = nq q → jm_ag Crs σ0 σ → f19 σ0 σ → ∃ σ', jm_ev 59 (jM_who, 93, [some (jm_R 21 0), some (jm_I (nI i)), some (jm_I (nI q)), some (jm_I (nI r)), some (jm_I (nI a)), some (jm_I (nI m)), some (jm_I x6), some (jm_I (if q ≤ 1 then (wa (wF S (uq q) i m g) (lq q) j).1 else 0)), some (jm_I (nI (wa (wF S (uq q) i m g) (lq q) j).2.1)), some (jm_I (wa (wF S (uq q) i m g) (lq q) j).2.2), some (jm_I (nI (lq q + j)))], [], σ) = some (some (jm_I (whV q (wa (wF S (uq q) i m g) (lq q) (nq q)))), σ') ∧ jm_ag Crs σ0 σ' ∧ f19 σ0 σ'
  | 0, j, σ, h, ha, hf => by
    have : j = nq q := by omega
    subst this
    refine ⟨σ, ?_, ha, hf⟩
    rw [gM_who_93, gM_who_106, gM_who_106, gM_who_215, gM_who_215, gM_who_215]
    rcases (show q = 0 ∨ q = 1 ∨ q = 2 ∨ q = 3 by omega) with rfl | rfl | rfl | rfl <;> rfl
  | f + 1, j, σ, h, ha, hf => by
    have h6 := hK.1
    have hn : nq q = 5 ∨ nq q = 41 := by unfold nq; split <;> omega
    have hl : lq q ≤ 1 := by unfold lq; split <;> omega
    have hu4 : uq q < 4 := by unfold uq; split <;> (try split) <;> omega
    have hjv : uq q = 3 → lq q + j ≤ 5 := by
      intro h9
      unfold uq at h9
      unfold nq at h
      unfold lq
      split at h9
      · next h8 => subst h8; simp at h; simp; omega
      · split at h9 <;> omega
    have h25 : σ.1 25 0 = σ0.1 25 0 := (ha 25 0 rfl).1
    obtain ⟨σ1, e1, e2, e3⟩ := r_layThen 58 σ h6 (by rw [h25]; exact hs)
    have hT : rS ((jm_wi σ1 25 2 (2 + 4 * i + rOff (uq q)) (nI (lq q + j))).1 25 2) (sPut S (uq q) i (nI (lq q + j))) := by
      rw [jm_w_s]; exact rS_put e3 hu4 _
    obtain ⟨σ2, g1, g2, g3⟩ := r_ibs 51 (jm_wi σ1 25 2 (2 + 4 * i + rOff (uq q)) (nI (lq q + j))) (b := 40 * r + a) (m := m) (okK_put hK hjv) hT (by omega) hm1 hm6
    have hag : jm_ag Crs σ0 σ2 := (ha.tr ((Cl2_rs e2).tr (jm_ag.wi rfl))).tr (C29_rs g3)
    have hf2 : f19 σ0 σ2 := fun c hc => by
      rw [g2 c hc]
      show σ1.1 21 0 c = _
      rw [(e2 21 0 rfl).1]
      exact hf c hc
    have hgg : bxm (BS (sPut S (uq q) i (nI (lq q + j)))) (fun k => (jm_wi σ1 25 2 (2 + 4 * i + rOff (uq q)) (nI (lq q + j))).1 24 0 (40 * r + a + k)) m = wF S (uq q) i m g (lq q + j) := bxm_cg m (fun k hk => by
      show σ1.1 24 0 (40 * r + a + k) = g k
      rw [(e2 24 0 rfl).1, (ha 24 0 rfl).1]; exact hg k hk)
    rw [hgg] at g1
    obtain ⟨σ', q1, q2⟩ := r_whL σ0 x6 hK hs hq hi hr ham hm1 hm6 hg f (j + 1) σ2 (by omega) hag hf2
    refine ⟨σ', ?_, q2⟩
    have ho : rOff (uq q) < 4 := by unfold rOff; split <;> omega
    have hst : jm_ev 59 (jM_who, 93, [some (jm_R 21 0), some (jm_I (nI i)), some (jm_I (nI q)), some (jm_I (nI r)), some (jm_I (nI a)), some (jm_I (nI m)), some (jm_I x6), some (jm_I (if q ≤ 1 then (wa (wF S (uq q) i m g) (lq q) j).1 else 0)), some (jm_I (nI (wa (wF S (uq q) i m g) (lq q) j).2.1)), some (jm_I (wa (wF S (uq q) i m g) (lq q) j).2.2), some (jm_I (nI (lq q + j)))], [], σ) = jm_ev 59 (jM_who, 149, [some (jm_R 21 0), some (jm_I (nI i)), some (jm_I (nI q)), some (jm_I (nI r)), some (jm_I (nI a)), some (jm_I (nI m)), some (jm_I x6), some (jm_I (if q ≤ 1 then (wa (wF S (uq q) i m g) (lq q) j).1 else 0)), some (jm_I (nI (wa (wF S (uq q) i m g) (lq q) j).2.1)), some (jm_I (wa (wF S (uq q) i m g) (lq q) j).2.2), some (jm_I (nI (lq q + j)))], [jm_I (bI (wF S (uq q) i m g (lq q + j)))], σ2) := by
      have h132 : jm_ev 59 (jM_who, 132, [some (jm_R 21 0), some (jm_I (nI i)), some (jm_I (nI q)), some (jm_I (nI r)), some (jm_I (nI a)), some (jm_I (nI m)), some (jm_I x6), some (jm_I (if q ≤ 1 then (wa (wF S (uq q) i m g) (lq q) j).1 else 0)), some (jm_I (nI (wa (wF S (uq q) i m g) (lq q) j).2.1)), some (jm_I (wa (wF S (uq q) i m g) (lq q) j).2.2), some (jm_I (nI (lq q + j)))], [jm_I (nI (rOff (uq q))), jm_I (2 + 4 * nI i), jm_R 25 2], σ1) = jm_ev 59 (jM_who, 149, [some (jm_R 21 0), some (jm_I (nI i)), some (jm_I (nI q)), some (jm_I (nI r)), some (jm_I (nI a)), some (jm_I (nI m)), some (jm_I x6), some (jm_I (if q ≤ 1 then (wa (wF S (uq q) i m g) (lq q) j).1 else 0)), some (jm_I (nI (wa (wF S (uq q) i m g) (lq q) j).2.1)), some (jm_I (wa (wF S (uq q) i m g) (lq q) j).2.2), some (jm_I (nI (lq q + j)))], [jm_I (bI (wF S (uq q) i m g (lq q + j)))], σ2) := by
        rw [gM_who_132, show (2 : Int32) + 4 * nI i + nI (rOff (uq q)) = nI (2 + 4 * i + rOff (uq q)) from by rw [show (2 : Int32) = nI 2 from rfl, show (4 : Int32) = nI 4 from rfl, pk_mul, nI_add, nI_add], show (40 : Int32) * nI r + nI a = nI (40 * r + a) from by rw [show (40 : Int32) = nI 40 from rfl, pk_mul, nI_add], jm_in_nI (show 2 + 4 * i + rOff (uq q) < 26 by omega) (by decide), cond_true, jm_cl (by omega), g1, Option.bind_some, jm_ps]
      rw [gM_who_93, gM_who_106, gM_who_106, e1, Option.bind_some, jm_pn, gM_who_113]
      by_cases hq1 : q ≤ 1
      · have hl1 : lq q = 1 := by unfold lq; rw [if_pos hq1]
        have hn5 : nq q = 5 := by unfold nq; rw [if_pos hq1]
        rw [jm_ct (show nI q ≤ 1 from nI_le (b := 1) hq1 (by decide)), jm_cf (show ¬ (5 : Int32) < nI (lq q + j) from nI_nlt (a := 5) (by omega) (by omega)), jm_ct (show nI q ≤ 1 from nI_le (b := 1) hq1 (by decide))]
        rw [show rOff (uq q) = q by rcases (show q = 0 ∨ q = 1 by omega) with rfl | rfl <;> rfl] at h132
        exact h132
      · have hl1 : lq q = 0 := by unfold lq; rw [if_neg hq1]
        have hn5 : nq q = 41 := by unfold nq; rw [if_neg hq1]
        have hnl : ¬ nI q ≤ 1 := nI_ge (a := 1) (by omega) (by omega)
        rw [jm_cf hnl, jm_cf (show ¬ (40 : Int32) < nI (lq q + j) from nI_nlt (a := 40) (by omega) (by omega)), jm_cf hnl]
        rw [show rOff (uq q) = 2 by rcases (show q = 2 ∨ q = 3 by omega) with rfl | rfl <;> rfl] at h132
        exact h132
    rw [hst, gM_who_149, gM_who_187, nI_1, show lq q + j + 1 = lq q + (j + 1) by omega]
    have hc1 := (wa_0 (wF S (uq q) i m g) (lq q) j).1
    cases hF : wF S (uq q) i m g (lq q + j) with
    | false =>
      rw [wa_s, hF, if_neg (show ¬ (false = true) by decide)] at q1
      rw [jm_ct (show bI false = 0 from rfl)]
      exact q1
    | true =>
      rw [wa_s, hF, if_pos (show true = true from rfl)] at q1
      dsimp only at q1
      rw [jm_cf (show ¬ bI true = 0 by decide), gM_who_167, gM_who_167, gM_who_182, gM_who_182, gM_who_182, gM_who_182, gM_who_187, gM_who_187, gM_who_187, gM_who_187, nI_1, nI_1, show lq q + j + 1 = lq q + (j + 1) by omega, or0]
      by_cases hq1 : q ≤ 1
      · simp only [if_pos hq1] at q1 ⊢
        rw [jm_cf (show ¬ (2 : Int32) ≤ nI q from nI_ge (b := 2) (by omega) (by decide))]
        by_cases h0 : (wa (wF S (uq q) i m g) (lq q) j).2.1 = 0
        · rw [if_pos h0] at q1
          rw [jm_cf (fun h9 => h9 (by rw [h0]; rfl))]
          exact q1
        · rw [if_neg h0] at q1
          rw [jm_ct (nI_ne0 (by omega) (by omega))]
          exact q1
      · simp only [if_neg hq1] at q1 ⊢
        rw [jm_ct (show (2 : Int32) ≤ nI q from nI_le (a := 2) (by omega) (by omega))]
        by_cases h0 : (wa (wF S (uq q) i m g) (lq q) j).2.1 = 0
        · rw [if_pos h0] at q1
          rw [jm_cf (fun h9 => h9 (by rw [h0]; rfl))]
          exact q1
        · rw [if_neg h0] at q1
          rw [jm_ct (nI_ne0 (by omega) (by omega))]
          exact q1
theorem r_rowFound (e : Nat) {σ : jm_S} {A : aS} (hr : rRel σ A) (hA : okA A) {r : Nat} (h8 : r < 8) (x y : Int32) : jm_call (e + 2) jM_rowFound [jm_R 21 0, jm_I (nI r), jm_I x, jm_I y] σ = match aRw A r with
    | none => some (some (jm_I (-1000010 - 1)), jm_wi σ 21 0 1 1)
    | some q => if 0 ≤ x.toInt ∧ x.toInt + y.toInt ≤ q.2 then some (some (jm_I 0), jm_wi σ 21 0 1 0) else some (some (jm_I (-1000010 - 2)), jm_wi σ 21 0 1 2) := by
  have h1 := (hr.1 r h8).1
  have hin : jm_in3 (nI r) 8 = true := jm_in_nI h8 (by decide)
  have z0 : (0 : Int32).toInt = 0 := rfl
  rw [gM_rowFound_0, hin, cond_true, cond_true, jm_cl (by omega), gM_finding_0, Option.bind_some, jm_ps, gM_rowFound_14, gM_rowFound_35, gM_finding_0, Option.bind_some, jm_ps, gM_rowFound_40]
  cases hq : aRw A r with
  | none =>
    rw [hq] at h1
    have h1 : σ.1 22 0 r = -1 := h1
    rw [h1, jm_cf (by decide)]
  | some q =>
    rw [hq] at h1
    have h9 := hA.1 r h8 q hq
    rw [h1.2, h1.1, jm_ct (nI_pos' (by omega))]
    show _ = if 0 ≤ x.toInt ∧ x.toInt + y.toInt ≤ q.2 then _ else _
    by_cases a : x < 0
    · rw [jm_ct a, if_neg]
      rw [jm_ti32] at a; omega
    · rw [jm_cf a]
      rw [jm_ti32] at a
      by_cases b : x.toInt + y.toInt ≤ q.2
      · have b' : lg_cmp (x.toInt64 + y.toInt64) (nI q.2).toInt64 ≤ 0 := by
          rw [jm_te32]
          have : ¬ (0 : Int32) < lg_cmp (x.toInt64 + y.toInt64) (nI q.2).toInt64 := by
            rw [jm_lg_gt, jm_ti64, jm_add64, jm_i64, nI_toInt (by omega)]; omega
          rw [jm_ti32] at this
          omega
        rw [jm_ct b', if_pos ⟨by omega, b⟩]
      · have b' : ¬ lg_cmp (x.toInt64 + y.toInt64) (nI q.2).toInt64 ≤ 0 := by
          rw [jm_te32]
          have : (0 : Int32) < lg_cmp (x.toInt64 + y.toInt64) (nI q.2).toInt64 := by
            rw [jm_lg_gt, jm_ti64, jm_add64, jm_i64, nI_toInt (by omega)]; omega
          rw [jm_ti32] at this
          omega
        rw [jm_cf b', if_neg (by omega)]
theorem P_who {A : aS} (hA : okA A) (x1 x2 x3 x4 x5 : Int32) : Pair A jD_who jM_who [jm_I x1, jm_I x2, jm_I x3, jm_I x4, jm_I x5] := by
  have h6 := hA.2.2.1.1
  have z0 : (0 : Int32).toInt = 0 := rfl
  have z1 : (1 : Int32).toInt = 1 := rfl
  have z3 : (3 : Int32).toInt = 3 := rfl
  by_cases hx1 : 0 ≤ x1.toInt ∧ x1.toInt < (aSh A).1
  case neg =>
    refine ⟨jm_I (-1000001), A, hA, fun σ hc => ⟨σ, ?_, hc, jm_ag.rf⟩, fun σ hr => ⟨jm_wi σ 21 0 0 0, ?_, hr.th 0, jm_ag.wi rfl⟩⟩
    · rw [gD_who_0, c_has 58 σ 0 _ hc.2.2.1.1 h6, if_neg hx1, Option.bind_some, jm_ps, gD_who_8, jm_ct rfl, gD_who_20]
    · rw [gM_who_0, r_isDisc 57 _ _ (hr.th 0).2.2.1.1 h6, if_neg hx1, Option.bind_some, jm_ps, gM_who_10, jm_ct rfl, gM_who_49]
  obtain ⟨i, hi, rfl⟩ := jm_nI_of hx1.1 hx1.2
  by_cases hx2 : 0 ≤ x2.toInt ∧ x2.toInt ≤ (3 : Nat)
  case neg =>
    refine ⟨jm_I (-1000001), A, hA, fun σ hc => ⟨σ, ?_, hc, jm_ag.rf⟩, fun σ hr => ⟨jm_wi σ 21 0 0 0, ?_, hr.th 0, jm_ag.wi rfl⟩⟩
    · rw [gD_who_0, c_has 58 σ 0 _ hc.2.2.1.1 h6, if_pos hx1, Option.bind_some, jm_ps, gD_who_8, jm_cf (by decide), gD_who_20]
      by_cases a : x2 < 0
      · rw [jm_ct a]
      · rw [jm_cf a, jm_cf]
        rw [jm_ti32] at a
        rw [jm_te32]
        omega
    · rw [gM_who_0, r_isDisc 57 _ _ (hr.th 0).2.2.1.1 h6, if_pos hx1, Option.bind_some, jm_ps, gM_who_10, jm_cf (by decide), r_inK 58 _ _ 3 (n := 3) rfl, if_neg hx2, Option.bind_some, jm_ps, gM_who_22, jm_ct rfl, gM_who_49]
  obtain ⟨q, hq, rfl⟩ := jm_nI_of (x := x2) (n := 4) hx2.1 (by omega)
  have hcS : ∀ σ, cRel σ A → jm_call 60 jD_who [jm_R 0 0, jm_I (nI i), jm_I (nI q), jm_I x3, jm_I x4, jm_I x5] σ = (jm_call 59 jD_isRow [jm_I x3] σ).bind fun p => jm_ev 59 (jm_psh (jD_who, 27, [some (jm_R 0 0), some (jm_I (nI i)), some (jm_I (nI q)), some (jm_I x3), some (jm_I x4), some (jm_I x5)], [], σ) p) := fun σ hc => by
    rw [gD_who_0, c_has 58 σ 0 _ hc.2.2.1.1 h6, if_pos hx1, Option.bind_some, jm_ps, gD_who_8, jm_cf (by decide), jm_cf (nI_pos (by omega)), jm_ct (show nI q ≤ 3 from nI_le (b := 3) (by omega) (by decide))]
  have hrS : ∀ σ, rRel σ A → jm_call 60 jM_who [jm_R 21 0, jm_I (nI i), jm_I (nI q), jm_I x3, jm_I x4, jm_I x5] σ = (jm_call 59 jM_isRow [jm_I x3] (jm_wi σ 21 0 0 0)).bind fun p => jm_ev 59 (jm_psh (jM_who, 29, [some (jm_R 21 0), some (jm_I (nI i)), some (jm_I (nI q)), some (jm_I x3), some (jm_I x4), some (jm_I x5), none, none, none, none, none], [], jm_wi σ 21 0 0 0) p) := fun σ hr => by
    rw [gM_who_0, r_isDisc 57 _ _ (hr.th 0).2.2.1.1 h6, if_pos hx1, Option.bind_some, jm_ps, gM_who_10, jm_cf (by decide), r_inK 58 _ _ 3 (n := 3) rfl, if_pos hx2, Option.bind_some, jm_ps, gM_who_22, jm_cf (by decide)]
  by_cases hx3 : 0 ≤ x3.toInt ∧ x3.toInt < 8
  case neg =>
    refine ⟨jm_I (-1000001), A, hA, fun σ hc => ⟨σ, ?_, hc, jm_ag.rf⟩, fun σ hr => ⟨jm_wi σ 21 0 0 0, ?_, hr.th 0, jm_ag.wi rfl⟩⟩
    · rw [hcS σ hc, c_isRow, if_neg hx3, Option.bind_some, jm_ps, gD_who_27, jm_ct rfl, gD_who_48]
    · rw [hrS σ hr, r_isRow, if_neg hx3, Option.bind_some, jm_ps, gM_who_29, jm_ct rfl, gM_who_49]
  obtain ⟨r, h8, rfl⟩ := jm_nI_of (x := x3) (n := 8) hx3.1 hx3.2
  have hin5 : ∀ σ, rRel σ A → jm_call 59 jM_in [jm_L x5.toInt64, jm_L 1, jm_L (((jm_wi σ 21 0 0 0).1 25 0 0).toInt64)] (jm_wi σ 21 0 0 0) = some (some (jm_I (if 1 ≤ x5.toInt ∧ x5.toInt ≤ (aSh A).1 then 1 else 0)), jm_wi σ 21 0 0 0) := fun σ hr => by
    rw [r_in, (hr.th 0).2.2.1.1]
    simp only [jm_i64, show (1 : Int64).toInt = 1 from rfl, nI_toInt (show (aSh A).1 < 2 ^ 31 by omega)]
  by_cases hx5 : 1 ≤ x5.toInt ∧ x5.toInt ≤ (aSh A).1
  case neg =>
    refine ⟨jm_I (-1000001), A, hA, fun σ hc => ⟨σ, ?_, hc, jm_ag.rf⟩, fun σ hr => ⟨jm_wi σ 21 0 0 0, ?_, hr.th 0, jm_ag.wi rfl⟩⟩
    · rw [hcS σ hc, c_isRow, if_pos hx3, Option.bind_some, jm_ps, gD_who_27, jm_cf (by decide), gD_who_48, hc.2.2.1.1]
      by_cases a : x5 < 1
      · rw [jm_ct a]
      · rw [jm_cf a, jm_cf]
        rw [jm_ti32] at a
        rw [jm_te32, nI_toInt (by omega)]
        omega
    · rw [hrS σ hr, r_isRow, if_pos hx3, Option.bind_some, jm_ps, gM_who_29, jm_cf (by decide), hin5 σ hr, if_neg hx5, Option.bind_some, jm_ps, gM_who_46, jm_cf (fun h9 => h9 rfl), gM_who_49]
  obtain ⟨m, hm, rfl⟩ := jm_nI_of (x := x5) (n := 7) (by omega) (by omega)
  have hm1 : 1 ≤ m ∧ m ≤ (aSh A).1 := by have := hx5; rw [nI_toInt (by omega)] at this; omega
  have hx5a : ¬ nI m < 1 := by rw [jm_ti32]; omega
  have hcS2 : ∀ σ, cRel σ A → jm_call 60 jD_who [jm_R 0 0, jm_I (nI i), jm_I (nI q), jm_I (nI r), jm_I x4, jm_I (nI m)] σ = jm_ev 59 (jD_who, 56, [some (jm_R 0 0), some (jm_I (nI i)), some (jm_I (nI q)), some (jm_I (nI r)), some (jm_I x4), some (jm_I (nI m))], [jm_I (bI (aRw A r).isNone)], σ) := fun σ hc => by
    rw [hcS σ hc, c_isRow, if_pos hx3, Option.bind_some, jm_ps, gD_who_27, jm_cf (by decide), hc.2.2.1.1, jm_cf hx5a, jm_ct (nI_le hm1.2 (by omega)), c_isMissing 58 hc hA h8, Option.bind_some, jm_ps]
  have hrS2 : ∀ σ, rRel σ A → jm_call 60 jM_who [jm_R 21 0, jm_I (nI i), jm_I (nI q), jm_I (nI r), jm_I x4, jm_I (nI m)] σ = (jm_call 59 jM_rowFound [jm_R 21 0, jm_I (nI r), jm_I x4, jm_I (nI m)] (jm_wi σ 21 0 0 0)).bind fun p => jm_ev 59 (jm_psh (jM_who, 61, [some (jm_R 21 0), some (jm_I (nI i)), some (jm_I (nI q)), some (jm_I (nI r)), some (jm_I x4), some (jm_I (nI m)), none, none, none, none, none], [], jm_wi σ 21 0 0 0) p) := fun σ hr => by
    rw [hrS σ hr, r_isRow, if_pos hx3, Option.bind_some, jm_ps, gM_who_29, jm_cf (by decide), hin5 σ hr, if_pos hx5, Option.bind_some, jm_ps, gM_who_46, jm_ct (by decide)]
  cases hq3 : aRw A r with
  | none =>
    refine ⟨jm_I (-1000010 - 1), aFdW A 1, hA.fd _, fun σ hc => ⟨jm_wi σ 0 0 13 1, ?_, hc.fd 1, jm_ag.wi rfl⟩, fun σ hr => ⟨jm_wi (jm_wi σ 21 0 0 0) 21 0 1 1, ?_, (hr.th 0).fd 1, (jm_ag.wi rfl).tr (jm_ag.wi rfl)⟩⟩
    · rw [hcS2 σ hc, hq3, gD_who_56, jm_cf (by decide), gD_found_0, Option.bind_some, jm_ps, gD_who_64]
    · rw [hrS2 σ hr, r_rowFound 57 (hr.th 0) hA h8, hq3, Option.bind_some, jm_ps, gM_who_61, jm_cf (by decide)]
  | some p =>
  have hp := hA.1 r h8 p hq3
  by_cases hw : 0 ≤ x4.toInt ∧ x4.toInt + (nI m).toInt ≤ p.2
  case neg =>
    have hw' : ¬ (0 ≤ x4.toInt ∧ 0 ≤ (nI m).toInt ∧ x4.toInt + (nI m).toInt ≤ p.2) := fun h9 => hw ⟨h9.1, h9.2.2⟩
    refine ⟨jm_I (-1000010 - 2), aFdW A 2, hA.fd _, fun σ hc => ⟨jm_wi σ 0 0 13 2, ?_, hc.fd 2, jm_ag.wi rfl⟩, fun σ hr => ⟨jm_wi (jm_wi σ 21 0 0 0) 21 0 1 2, ?_, (hr.th 0).fd 2, (jm_ag.wi rfl).tr (jm_ag.wi rfl)⟩⟩
    · rw [hcS2 σ hc, hq3, gD_who_56, jm_ct (show bI (some p).isNone = 0 from rfl), c_isWithin 58 hc hA h8 hq3, if_neg hw', Option.bind_some, jm_ps, gD_who_74, jm_cf (fun h9 => h9 rfl), gD_found_0, Option.bind_some, jm_ps, gD_who_82]
    · have hrf := r_rowFound 57 (hr.th 0) hA h8 x4 (nI m)
      rw [hq3] at hrf
      dsimp only at hrf
      rw [if_neg hw] at hrf
      rw [hrS2 σ hr, hrf, Option.bind_some, jm_ps, gM_who_61, jm_cf (by decide)]
  have hw' : 0 ≤ x4.toInt ∧ 0 ≤ (nI m).toInt ∧ x4.toInt + (nI m).toInt ≤ p.2 := ⟨hw.1, by omega, hw.2⟩
  obtain ⟨a, ha, rfl⟩ := jm_nI_of (x := x4) (n := 41) hw.1 (by omega)
  have ham : a + m ≤ 40 := by have := hw.2; rw [nI_toInt (by omega), nI_toInt (by omega)] at this; omega
  refine ⟨jm_I (whV q (wa (wF (aSh A) (uq q) i m (fun k => aIt A r (a + k))) (lq q) (nq q))), aFdW A 0, hA.fd 0, fun σ hc => ?_, fun σ hr => ?_⟩
  · obtain ⟨σ1, e1, e2, e3⟩ := c_takeFrom 57 σ (r0 := 1) (r1 := 0) (by omega) h6 hc.2.2.1
    have m1 : jm_ag Csc σ σ1 := e2.mo (fun g r h8 => by
      simp only [Csc, Bool.or_eq_false_iff] at h8
      simp only [Ctf, Bool.or_eq_false_iff]
      exact ⟨h8.1.2, h8.2⟩)
    have hT : ∀ u, Tr σ1 (aSh A) u i := fun u => ⟨e3.1, e3.2.1, fun w hw d hd _ => e3.2.2 w hw d hd⟩
    have hg : ∀ k, k < m → σ.1 4 r (a + k) = aIt A r (a + k) := fun k hk => (hc.1 r h8).2 (a + k) (by omega)
    have hst : jm_call 60 jD_who [jm_R 0 0, jm_I (nI i), jm_I (nI q), jm_I (nI r), jm_I (nI a), jm_I (nI m)] σ = jm_ev 59 (jD_who, 74, [some (jm_R 0 0), some (jm_I (nI i)), some (jm_I (nI q)), some (jm_I (nI r)), some (jm_I (nI a)), some (jm_I (nI m))], [jm_I 1], σ) := by
      rw [hcS2 σ hc, hq3, gD_who_56, jm_ct (show bI (some p).isNone = 0 from rfl), c_isWithin 58 hc hA h8 hq3, if_pos hw', Option.bind_some, jm_ps]
    rcases (show q = 0 ∨ q = 1 ∨ q = 2 ∨ q = 3 by omega) with rfl | rfl | rfl | rfl
    · obtain ⟨σ2, g1, g2⟩ := c_btL σ h6 (u := 3) (Or.inr rfl) hi h8 ham (by omega) hg 5 0 σ1 rfl m1 (hT 3)
      obtain ⟨q1, q2⟩ := cFin (x := 0) hc g2
      refine ⟨_, ?_, q1, q2⟩
      have g1' : jm_ev 58 (jD_bitsThatFit, 21, [some (jm_R 0 0), some (jm_I (nI i)), some (jm_I 3), some (jm_I (nI r)), some (jm_I (nI a)), some (jm_I (nI m)), some (jm_I 0), some (jm_I ((jm_tb 40).getD 3 0))], [], σ1) = _ := g1
      rw [hst, gD_who_74, jm_ct (by decide), jm_cf (fun h9 => h9 rfl), gD_bitsThatFit_0, e1, Option.bind_some, jm_pn, gD_bitsThatFit_14, show jm_in3 3 4 = true from rfl, cond_true, show (3 : Int32).toNatClampNeg = 3 from rfl, g1', Option.bind_some, jm_ps, gD_who_99, gD_clean_0, Option.bind_some, jm_ps, gD_who_102]
      rfl
    · obtain ⟨σ2, g1, g2⟩ := c_btL σ h6 (u := 0) (Or.inl rfl) hi h8 ham (by omega) hg 5 0 σ1 rfl m1 (hT 0)
      obtain ⟨q1, q2⟩ := cFin (x := 0) hc g2
      refine ⟨_, ?_, q1, q2⟩
      have g1' : jm_ev 58 (jD_bitsThatFit, 21, [some (jm_R 0 0), some (jm_I (nI i)), some (jm_I 0), some (jm_I (nI r)), some (jm_I (nI a)), some (jm_I (nI m)), some (jm_I 0), some (jm_I ((jm_tb 40).getD 0 0))], [], σ1) = _ := g1
      rw [hst, gD_who_74, jm_ct (by decide), jm_ct (by decide), jm_cf (fun h9 => h9 rfl), gD_bitsThatFit_0, e1, Option.bind_some, jm_pn, gD_bitsThatFit_14, show jm_in3 0 4 = true from rfl, cond_true, show (0 : Int32).toNatClampNeg = 0 from rfl, g1', Option.bind_some, jm_ps, gD_who_120, gD_clean_0, Option.bind_some, jm_ps, gD_who_123]
      rfl
    · obtain ⟨σ2, g1, g2⟩ := c_spL σ h6 (md := 0) (by omega) hi h8 ham (by omega) hg 41 0 σ1 rfl m1 (hT 1) (fun h9 => by omega)
      obtain ⟨q1, q2⟩ := cFin (x := 0) hc g2
      refine ⟨_, ?_, q1, q2⟩
      have g1' : jm_ev 58 (jD_springsThatFit, 21, [some (jm_R 0 0), some (jm_I (nI i)), some (jm_I 0), some (jm_I (nI r)), some (jm_I (nI a)), some (jm_I (nI m)), some (jm_I 0), some (jm_I ((jm_tb 40).getD 1 0))], [], σ1) = _ := g1
      rw [hst, gD_who_74, jm_ct (by decide), jm_ct (by decide), jm_ct (by decide), jm_ct (by decide), gD_who_137, gD_springsThatFit_0, e1, Option.bind_some, jm_pn, gD_springsThatFit_14, g1', Option.bind_some, jm_ps, gD_who_145, gD_clean_0, Option.bind_some, jm_ps, gD_who_148]
      rfl
    · obtain ⟨σ2, g1, g2⟩ := c_spL σ h6 (md := 1) (by omega) hi h8 ham (by omega) hg 41 0 σ1 rfl m1 (hT 1) (fun h9 => rfl)
      obtain ⟨q1, q2⟩ := cFin (x := 0) hc g2
      refine ⟨_, ?_, q1, q2⟩
      have g1' : jm_ev 58 (jD_springsThatFit, 21, [some (jm_R 0 0), some (jm_I (nI i)), some (jm_I 1), some (jm_I (nI r)), some (jm_I (nI a)), some (jm_I (nI m)), some (jm_I 0), some (jm_I ((jm_tb 40).getD 1 0))], [], σ1) = _ := g1
      rw [hst, gD_who_74, jm_ct (by decide), jm_ct (by decide), jm_ct (by decide), jm_cf (fun h9 => h9 rfl), gD_who_137, gD_springsThatFit_0, e1, Option.bind_some, jm_pn, gD_springsThatFit_14, g1', Option.bind_some, jm_ps, gD_who_145, gD_clean_0, Option.bind_some, jm_ps, gD_who_148]
      rfl
  · have hr2 := (hr.th 0).fd 0
    have hg : ∀ k, k < m → (jm_wi (jm_wi σ 21 0 0 0) 21 0 1 0).1 24 0 (40 * r + a + k) = aIt A r (a + k) := fun k hk => by
      rw [show 40 * r + a + k = 40 * r + (a + k) by omega]
      exact (hr.1 r h8).2 (a + k) (by omega)
    obtain ⟨σ', g1, g2, g3⟩ := r_whL (jm_wi (jm_wi σ 21 0 0 0) 21 0 1 0) 0 hA.2.2.1.K hr2.2.2.1 (show q ≤ 3 by omega) hi h8 ham hm1.1 (by omega) hg (nq q) 0 (jm_wi (jm_wi σ 21 0 0 0) 21 0 1 0) (by omega) jm_ag.rf (fun _ _ => rfl)
    refine ⟨σ', ?_, hr2.sc g2 g3.live, ((jm_ag.wi rfl).tr (jm_ag.wi rfl)).tr (Crs_rf g2)⟩
    have hrf := r_rowFound 57 (hr.th 0) hA h8 (nI a) (nI m)
    rw [hq3] at hrf
    dsimp only at hrf
    rw [if_pos hw] at hrf
    rw [hrS2 σ hr, hrf, Option.bind_some, jm_ps, gM_who_61, jm_ct rfl, gM_who_91, gM_who_91]
    refine Eq.trans ?_ g1
    rcases (show q = 0 ∨ q = 1 ∨ q = 2 ∨ q = 3 by omega) with rfl | rfl | rfl | rfl <;> rfl
