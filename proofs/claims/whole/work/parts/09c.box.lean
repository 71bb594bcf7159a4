-- METHODS: box, determinant
theorem xR_if (o : Option (Option Nat)) (h : ∀ l, o = some (some l) → l < 2 ^ 31) : (if xR o = -1000016 then (6 : Int32) else 0) = cond o.isNone 6 0 := by
  cases hn : o.isNone with
  | true => rw [if_pos ((xR_ov h).mpr hn)]; rfl
  | false => rw [if_neg (fun h9 => by have := (xR_ov h).mp h9; rw [hn] at this; cases this)]; rfl
theorem xRN (o : Option (Option Nat)) : cond o.isNone (-1000016) (xN o) = xR o := by
  match o with
  | none => rfl
  | some none => rfl
  | some (some l) => rfl
theorem P_box {A : aS} (hA : okA A) (x : Int32) : Pair A jD_box jM_box [jm_I x] := by
  have h6 := hA.2.2.1.1
  by_cases h : 0 ≤ x.toInt ∧ x.toInt < (aSh A).1
  · obtain ⟨k, hk, rfl⟩ := jm_nI_of h.1 h.2
    have hle : ∀ l, boxS (BS (aSh A)) k = some (some l) → l < 2 ^ 31 := fun l h9 => by have := boxS_le h9; omega
    refine ⟨jm_I (xR (boxS (BS (aSh A)) k)), aFdW A (cond (boxS (BS (aSh A)) k).isNone 6 0), hA.fd _, fun σ hc => ?_, fun σ hr => ?_⟩
    · obtain ⟨σ1, e1, e2, e3⟩ := c_measure 56 σ 0 h6 hc.2.2.1
      obtain ⟨σ2, f1, f2, f3⟩ := c_boxOf 55 σ1 h6 e2 (show k < 100 by omega)
      obtain ⟨g1, g2⟩ := cFin (x := cond (boxS (BS (aSh A)) k).isNone 6 0) hc ((C17_sc e3).tr (C18_sc f3))
      refine ⟨_, ?_, g1, g2⟩
      rw [gD_box_0, c_has 58 σ 0 _ hc.2.2.1.1 h6, if_pos h, Option.bind_some, jm_ps, gD_box_8, jm_ct (by decide), e1, Option.bind_some, jm_pn, gD_box_25, f1, Option.bind_some, jm_ps, gD_box_34, c_answered 57, Option.bind_some, jm_ps, gD_box_37]
      show some (some (jm_I (xR (boxS (BS (aSh A)) k))), jm_wi σ2 0 0 13 (if xR (boxS (BS (aSh A)) k) = -1000016 then 6 else 0)) = _
      rw [xR_if _ hle]
    · have hr' := hr.th 0
      obtain ⟨σ1, e1, e2, e3, e4⟩ := r_boxOf 53 _ 0 hA.2.2.1.K hr'.2.2.1 (show k < 100 by omega)
      obtain ⟨σ2, f1, f2, f3⟩ := r_unlessR 57 (xN (boxS (BS (aSh A)) k)) e2 (hr'.sc (C28_rs e4) e3.live)
      refine ⟨σ2, ?_, f2, ((jm_ag.wi rfl).tr (Crs_rf (C28_rs e4))).tr f3⟩
      rw [gM_box_0, r_isDisc 57 _ _ hr'.2.2.1.1 h6, if_pos h, Option.bind_some, jm_ps, gM_box_10, jm_ct (by decide), e1, Option.bind_some, jm_ps, gM_box_26, f1, Option.bind_some, jm_ps, gM_box_29, xRN]
  · refine ⟨jm_I (-1000001), A, hA, fun σ hc => ⟨σ, ?_, hc, jm_ag.rf⟩, fun σ hr => ⟨jm_wi σ 21 0 0 0, ?_, hr.th 0, jm_ag.wi rfl⟩⟩
    · rw [gD_box_0, c_has 58 σ 0 _ hc.2.2.1.1 h6, if_neg h, Option.bind_some, jm_ps, gD_box_8, jm_cf (fun h9 => h9 rfl)]
    · rw [gM_box_0, r_isDisc 57 _ _ (hr.th 0).2.2.1.1 h6, if_neg h, Option.bind_some, jm_ps, gM_box_10, jm_cf (fun h9 => h9 rfl)]
theorem P_determinant {A : aS} (hA : okA A) (x y : Int32) : Pair A jD_determinant jM_determinant [jm_I x, jm_I y] := by
  have h6 := hA.2.2.1.1
  by_cases h0 : (aSh A).1 = 0
  · refine ⟨jm_L (-1000002), A, hA, fun σ hc => ⟨σ, ?_, hc, jm_ag.rf⟩, fun σ hr => ⟨jm_wi σ 21 0 0 0, ?_, hr.th 0, jm_ag.wi rfl⟩⟩
    · rw [gD_determinant_0, hc.2.2.1.1, h0, jm_cf (fun h9 => h9 rfl)]
    · rw [gM_determinant_0, r_isThere 58 _ (hr.th 0).2.2.1.1 h6, if_pos h0, Option.bind_some, jm_ps, gM_determinant_9, jm_cf (fun h9 => h9 rfl)]
  · have hne : ¬ nI (aSh A).1 = 0 := nI_ne0 (by omega) (by omega)
    have rin : ∀ σ : jm_S, rRel σ A → jm_call 59 jM_in [jm_L x.toInt64, jm_L 0, jm_L ((σ.1 25 0 0).toInt64)] σ = some (some (jm_I (if 0 ≤ x.toInt ∧ x.toInt ≤ (aSh A).1 then 1 else 0)), σ) := by
      intro σ hr
      rw [r_in, hr.2.2.1.1]
      simp only [jm_i64, show (0 : Int64).toInt = 0 from rfl, nI_toInt (show (aSh A).1 < 2 ^ 31 by omega)]
    by_cases hx : 0 ≤ x.toInt ∧ x.toInt ≤ (aSh A).1
    · obtain ⟨i, hi, rfl⟩ := jm_nI_of (n := (aSh A).1 + 1) hx.1 (by omega)
      by_cases hy : 0 ≤ y.toInt ∧ y.toInt ≤ 200
      · generalize hD : dgS (sw (aSh A)) (ss (aSh A)) (st (aSh A)) y.toInt64 = Dg
        refine ⟨jm_L (cond (oU Dg (ss (aSh A)) i) (-1000016) (dt Dg (ss (aSh A)) i)), aFdW A (cond (oU Dg (ss (aSh A)) i) 6 0), hA.fd _, fun σ hc => ?_, fun σ hr => ?_⟩
        · obtain ⟨σ1, e1, e2, e3⟩ := c_measure 56 σ 0 h6 hc.2.2.1
          obtain ⟨σ2, f1, f2, f3, f4⟩ := c_reaches 57 σ1 h6 e2 (show i ≤ (aSh A).1 by omega) y
          rw [hD] at f1 f4
          obtain ⟨g1, g2⟩ := cFin (x := cond (oU Dg (ss (aSh A)) i) 6 0) hc ((C17_sc e3).tr (C18_sc f3))
          refine ⟨_, ?_, g1, g2⟩
          rw [gD_determinant_0, hc.2.2.1.1, jm_ct hne, jm_cf (nI_pos (by omega)), jm_cf (nI_nlt (show i ≤ (aSh A).1 by omega) (by omega)), c_isMark, if_pos hy, Option.bind_some, jm_ps, gD_determinant_33, jm_ct (by decide), e1, Option.bind_some, jm_pn, gD_determinant_51, f1, Option.bind_some, jm_ps, gD_determinant_60]
          cases ho : oU Dg (ss (aSh A)) i with
          | true => rw [jm_cf (fun h9 => h9 rfl), gD_found_0, Option.bind_some, jm_ps, gD_determinant_69]; rfl
          | false =>
            rw [jm_ct (by decide), jm_in_nI (show i < 7 by omega) (by decide), cond_true, jm_cl (by omega), f4 ho i (Nat.le_refl _)]
            rfl
        · have hr' := hr.th 0
          obtain ⟨σ1, e1, e2, e3, e4, e5⟩ := r_reckon 55 _ 0 hA.2.2.1.K hr'.2.2.1 (show i ≤ (aSh A).1 by omega) y
          rw [hD] at e2 e5
          have hr1 := hr'.sc (C28_rs e4) e3.live
          rw [gM_determinant_0, r_isThere 58 _ hr'.2.2.1.1 h6, if_neg h0, Option.bind_some, jm_ps, gM_determinant_9, jm_ct (by decide), rin _ hr', if_pos hx, Option.bind_some, jm_ps, gM_determinant_29, jm_cf (by decide), r_inM, if_pos hy, Option.bind_some, jm_ps, gM_determinant_41, jm_ct (by decide), e1, Option.bind_some, jm_pn, gM_determinant_58, e2]
          cases ho : oU Dg (ss (aSh A)) i with
          | true =>
            rw [jm_cf (show ¬ bI true = 0 by decide), gM_finding_0, Option.bind_some, jm_ps, gM_determinant_76, gM_determinant_86]
            exact ⟨_, rfl, (hr1.fd 0).fd 6, (((jm_ag.wi rfl).tr (Crs_rf (C28_rs e4))).tr (jm_ag.wi rfl)).tr (jm_ag.wi rfl)⟩
          | false =>
            rw [jm_ct (show bI false = 0 from rfl), jm_in_nI (show i < 7 by omega) (by decide), cond_true, jm_cl (by omega), gM_determinant_86, e5 ho i (Nat.le_refl _)]
            exact ⟨_, rfl, hr1.fd 0, ((jm_ag.wi rfl).tr (Crs_rf (C28_rs e4))).tr (jm_ag.wi rfl)⟩
      · refine ⟨jm_L (-1000001), A, hA, fun σ hc => ⟨σ, ?_, hc, jm_ag.rf⟩, fun σ hr => ⟨jm_wi σ 21 0 0 0, ?_, hr.th 0, jm_ag.wi rfl⟩⟩
        · rw [gD_determinant_0, hc.2.2.1.1, jm_ct hne, jm_cf (nI_pos (by omega)), jm_cf (nI_nlt (show i ≤ (aSh A).1 by omega) (by omega)), c_isMark, if_neg hy, Option.bind_some, jm_ps, gD_determinant_33, jm_cf (fun h9 => h9 rfl), gD_determinant_36]
        · rw [gM_determinant_0, r_isThere 58 _ (hr.th 0).2.2.1.1 h6, if_neg h0, Option.bind_some, jm_ps, gM_determinant_9, jm_ct (by decide), rin _ (hr.th 0), if_pos hx, Option.bind_some, jm_ps, gM_determinant_29, jm_cf (by decide), r_inM, if_neg hy, Option.bind_some, jm_ps, gM_determinant_41, jm_cf (fun h9 => h9 rfl), gM_determinant_44]
    · refine ⟨jm_L (-1000001), A, hA, fun σ hc => ⟨σ, ?_, hc, jm_ag.rf⟩, fun σ hr => ⟨jm_wi σ 21 0 0 0, ?_, hr.th 0, jm_ag.wi rfl⟩⟩
      · rw [gD_determinant_0, hc.2.2.1.1, jm_ct hne, gD_determinant_36]
        by_cases hx0 : x < 0
        · rw [jm_ct hx0]
        · have hx1 : nI (aSh A).1 < x := by
            rw [jm_ti32, nI_toInt (by omega)]
            rw [jm_ti32] at hx0
            have : (0 : Int32).toInt = 0 := rfl
            omega
          rw [jm_cf hx0, jm_ct hx1]
      · rw [gM_determinant_0, r_isThere 58 _ (hr.th 0).2.2.1.1 h6, if_neg h0, Option.bind_some, jm_ps, gM_determinant_9, jm_ct (by decide), rin _ (hr.th 0), if_neg hx, Option.bind_some, jm_ps, gM_determinant_29, jm_ct rfl, gM_determinant_44]
