-- METHODS: undo
theorem okA.un {A : aS} (hA : okA A) {n : Nat} (hn : (aAc A).1 = n + 1) : okA (aShW A ((aAc A).2 n) (n, (aAc A).2)) := by
  obtain ⟨a1, a2, a3, ⟨a4, a5, a6⟩, a7⟩ := hA
  have b := a6 n (by omega)
  refine ⟨a1, a2, b.1, ⟨by show n ≤ 24; omega, rfl, fun i hi => ?_⟩, a7⟩
  have hi : i < n := hi
  have c := a6 i (by omega)
  exact ⟨c.1, c.2.trans b.2.symm⟩
theorem c_takeBack {σ : jm_S} {A : aS} (hc : cRel σ A) (hA : okA A) {n : Nat} (hn : (aAc A).1 = n + 1) : ∃ σ1, jm_call 59 jA_takeBack [jm_R 10 0, jm_R 7 0] σ = some (some (jm_I 1), σ1) ∧ cRel σ1 (aShW A ((aAc A).2 n) (n, (aAc A).2)) ∧ jm_ag Csh σ σ1 ∧ σ1.1 10 0 3 = nI n := by
  have h6 := hA.2.2.1.1
  have a4 := hA.2.2.2.1.1
  have a5 := hA.2.2.2.1.2.1
  obtain ⟨c1, c2⟩ := hc.2.2.2.1
  rw [hn] at c1 a5 a4 c2
  have hu := c2 n (by omega)
  rw [a5] at hu
  obtain ⟨hu1, hu2⟩ := hu
  have hs : cS (jm_wi σ 10 0 3 (nI n)) 0 (aSh A) := hc.2.2.1
  have hin : jm_in3 (nI n) 24 = true := jm_in_nI (by omega) (by decide)
  have hcl : (nI n).toNatClampNeg = n := jm_cl (by omega)
  have hac : ∀ σ' : jm_S, σ'.1 10 0 = upd (σ.1 10 0) 3 (nI n) → σ'.1 11 0 = σ.1 11 0 → σ'.1 12 0 = σ.1 12 0 → σ'.1 13 0 = σ.1 13 0 → cAc (σ'.1 10 0) (σ'.1 11 0) (σ'.1 12 0) (σ'.1 13 0) (aShW A ((aAc A).2 n) (n, (aAc A).2)) := by
    intro σ' b1 b2 b3 b4
    rw [b1, b2, b3, b4]
    refine ⟨pk_us, fun i hi => c2 i ?_⟩
    have hi : i < n := hi
    omega
  have hst : ∀ X, jm_call 59 jA_takeBack [jm_R 10 0, jm_R 7 0] σ = X ↔ cond (decide (¬ σ.1 11 0 n = 4)) (cond (decide (¬ σ.1 11 0 n = 5)) (jm_ev 58 (jA_takeBack, 112, [some (jm_R 10 0), some (jm_R 7 0), some (jm_I (σ.1 11 0 n))], [], jm_wi σ 10 0 3 (nI n))) ((jm_call 58 jS_has [jm_R 7 0, jm_I (σ.1 12 0 n)] (jm_wi σ 10 0 3 (nI n))).bind fun q => jm_ev 58 (jm_psh (jA_takeBack, 68, [some (jm_R 10 0), some (jm_R 7 0), some (jm_I (σ.1 11 0 n))], [], jm_wi σ 10 0 3 (nI n)) q))) (jm_ev 58 (jA_takeBack, 162, [some (jm_R 10 0), some (jm_R 7 0), some (jm_I (σ.1 11 0 n))], [], jm_wi (jm_wi σ 10 0 3 (nI n)) 7 0 2 (σ.1 13 0 n))) = X := by
    intro X
    rw [gA_takeBack_0, c1, jm_ct (show 0 < nI (n + 1) from nI_lt (a := 0) (by omega) (by omega)), nS1 (by omega), show n + 1 - 1 = n by omega, hin, cond_true, cond_true, cond_true, hcl]
  rcases hu2 with ⟨w4, b4, d4⟩ | ⟨w5, m5, i, j, hi, hj, hij, ho, hb, d5⟩ | ⟨u, i, hu, hi, hw, ho, hm, hb, dd⟩
  · refine ⟨jm_wi (jm_wi σ 10 0 3 (nI n)) 7 0 2 (σ.1 13 0 n), ?_, cRel.sh hc ((jm_ag.wi rfl).tr (jm_ag.wi rfl)) ⟨?_, ?_, fun w hw d hd => ?_⟩ (hac _ rfl rfl rfl rfl), (jm_ag.wi rfl).tr (jm_ag.wi rfl), rfl⟩
    · rw [hst, jm_cf (fun h9 => h9 w4), gA_takeBack_162]
    · rw [← hu1]; exact hs.1
    · exact b4
    · rw [d4 w hw d hd]; exact hs.2.2 w hw d (by rw [hu1]; exact hd)
  · have hlen : ((aAc A).2 n).1 = (aSh A).1 := hu1.symm
    rw [hlen] at hi hj d5
    have hjr : 0 ≤ (nI j).toInt ∧ (nI j).toInt < (aSh A).1 := by rw [nI_toInt (by omega)]; omega
    have hir : 0 ≤ (nI i).toInt ∧ (nI i).toInt < (aSh A).1 := by rw [nI_toInt (by omega)]; omega
    obtain ⟨σ2, f1, f2, f3⟩ := c_exchange 57 (jm_wi σ 10 0 3 (nI n)) (i := i) (j := j) (by omega) (by omega)
    have hne : ¬ σ.1 11 0 n = 4 := by rw [w5]; decide
    refine ⟨σ2, ?_, cRel.sh hc ((jm_ag.wi rfl).tr (C9_sh f2)) ⟨?_, ?_, fun w hw d hd => ?_⟩ (hac _ (f2 10 0 rfl).1 (f2 11 0 rfl).1 (f2 12 0 rfl).1 (f2 13 0 rfl).1), (jm_ag.wi rfl).tr (C9_sh f2), by rw [(f2 10 0 rfl).1]; rfl⟩
    · rw [hst, jm_ct hne, jm_cf (fun h9 => h9 w5), ho, c_has 57 _ 0 _ hs.1 h6, if_pos hir, Option.bind_some, jm_ps, gA_takeBack_68, jm_cf (by decide), jm_w_s, pk_us, hin, cond_true, hcl]
      have q1 : (jm_wi σ 10 0 3 (nI n)).1 12 0 n = nI i := ho
      have q2 : (jm_wi σ 10 0 3 (nI n)).1 13 0 n = nI j := hb
      rw [q2, c_has 57 _ 0 _ hs.1 h6, if_pos hjr, Option.bind_some, jm_ps, gA_takeBack_84, jm_cf (by decide), jm_w_s, pk_us, hin, cond_true, cond_true, hcl, q1, q2, f1, Option.bind_some, jm_pn, gA_takeBack_109, gA_takeBack_162]
    · rw [(f2 7 0 rfl).1, hlen]; exact hs.1
    · rw [(f2 7 0 rfl).1, ← m5]; exact hs.2.1
    · rw [hlen] at hd
      rw [f3 w d hw, d5 w hw d hd]
      exact hs.2.2 w hw _ (tw_lt hi hj hd)
  · have hlen : ((aAc A).2 n).1 = (aSh A).1 := hu1.symm
    rw [hlen] at hi dd
    have hir : 0 ≤ (nI i).toInt ∧ (nI i).toInt < (aSh A).1 := by rw [nI_toInt (by omega)]; omega
    have n4 : ¬ nI u = 4 := by rcases (show u = 0 ∨ u = 1 ∨ u = 2 ∨ u = 3 by omega) with rfl | rfl | rfl | rfl <;> decide
    have n5 : ¬ nI u = 5 := by rcases (show u = 0 ∨ u = 1 ∨ u = 2 ∨ u = 3 by omega) with rfl | rfl | rfl | rfl <;> decide
    have h8 : Csh 9 (4 * 0 + u) = true := by rcases (show u = 0 ∨ u = 1 ∨ u = 2 ∨ u = 3 by omega) with rfl | rfl | rfl | rfl <;> rfl
    have q1 : (jm_wi σ 10 0 3 (nI n)).1 12 0 n = nI i := ho
    have q2 : (jm_wi σ 10 0 3 (nI n)).1 13 0 n = ((aAc A).2 n).2.2 u i := hb
    refine ⟨jm_wi (jm_wi σ 10 0 3 (nI n)) 9 (4 * 0 + u) i (((aAc A).2 n).2.2 u i), ?_, cRel.sh hc ((jm_ag.wi rfl).tr (jm_ag.wi h8)) ⟨?_, ?_, fun w hw' d hd => ?_⟩ (hac _ rfl rfl rfl rfl), (jm_ag.wi rfl).tr (jm_ag.wi h8), rfl⟩
    · rw [hst, hw, jm_ct n4, jm_ct n5, gA_takeBack_112, jm_cf (nI_pos (by omega)), jm_cf (show ¬ (4 : Int32) ≤ nI u from nI_ge (b := 4) hu (by decide)), jm_w_s, pk_us, hin, cond_true, hcl, q1, c_has 57 _ 0 _ hs.1 h6, if_pos hir, Option.bind_some, jm_ps, gA_takeBack_134, jm_cf (by decide), jm_in_nI hu (by decide), cond_true, jm_w_s, pk_us, hin, cond_true, cond_true, hcl, q1, q2, jm_in_nI (show i < 6 by omega) (by decide), cond_true, jm_cl (by omega), jm_cl (by omega), gA_takeBack_162]
    · show σ.1 7 0 1 = _
      rw [hlen]; exact hs.1
    · show σ.1 7 0 2 = _
      rw [← hm]; exact hs.2.1
    · rw [hlen] at hd
      by_cases h9 : w = u ∧ d = i
      · rw [h9.1, h9.2, jm_w_s, pk_us]
      · rw [dd w hw' d hd h9]
        by_cases hwu : w = u
        · rw [hwu, jm_w_s, pk_un (fun h7 => h9 ⟨hwu, h7⟩), ← hwu]
          exact hs.2.2 w hw' d hd
        · rw [jm_w_n _ _ _ (fun h7 => hwu (by omega))]
          exact hs.2.2 w hw' d hd
theorem r_unL (σ0 : jm_S) {n : Nat} (hn : n < 24) (h9 : σ0.1 21 0 9 = nI n) : ∀ (f k : Nat) (σ : jm_S), k + f = 26 → jm_ag (fun k _ => k == 25) σ0 σ → (∀ j, j < k → σ.1 25 0 j = σ0.1 26 0 (26 * n + j)) → ∃ σ', jm_ev 59 (jM_undo, 27, [some (jm_R 21 0), some (jm_I (nI k))], [], σ) = some (some (jm_I (nI n)), σ') ∧ jm_ag (fun k _ => k == 25) σ0 σ' ∧ ∀ j, j < 26 → σ'.1 25 0 j = σ0.1 26 0 (26 * n + j)
  | 0, k, σ, h, ha, h1 => by
    have : k = 26 := by omega
    subst this
    exact ⟨σ, by rw [gM_undo_27, jm_ct (show (26 : Int32) ≤ nI 26 by decide), (ha 21 0 rfl).1, h9], ha, h1⟩
  | f + 1, k, σ, h, ha, h1 => by
    obtain ⟨σ', e1, e2⟩ := r_unL σ0 hn h9 f (k + 1) (jm_wi σ 25 0 k (σ.1 26 0 (26 * n + k))) (by omega) (ha.tr (jm_ag.wi rfl)) (fun j hj => by
      rw [jm_w_s]
      by_cases hk : j = k
      · subst hk; rw [pk_us, (ha 26 0 rfl).1]
      · rw [pk_un hk]; exact h1 j (by omega))
    refine ⟨σ', ?_, e2⟩
    rw [gM_undo_27, jm_cf (show ¬ (26 : Int32) ≤ nI k from nI_ge (b := 26) (by omega) (by decide)), (ha 21 0 rfl).1, h9, show (26 : Int32) * nI n + nI k = nI (26 * n + k) from by rw [show (26 : Int32) = nI 26 from rfl, pk_mul, nI_add], jm_in_nI (show 26 * n + k < 624 by omega) (by decide), cond_true, jm_in_nI (show k < 26 by omega) (by decide), cond_true, jm_cl (by omega), jm_cl (by omega), nI_1, e1]
theorem P_undo {A : aS} (hA : okA A) : Pair A jD_undo jM_undo [] := by
  have a4 := hA.2.2.2.1.1
  cases hn : (aAc A).1 with
  | zero =>
    refine ⟨jm_I (-1000002), A, hA, fun σ hc => ⟨σ, ?_, hc, jm_ag.rf⟩, fun σ hr => ⟨jm_wi σ 21 0 0 0, ?_, hr.th 0, jm_ag.wi rfl⟩⟩
    · have c1 := hc.2.2.2.1.1
      rw [hn] at c1
      rw [gD_undo_0, gA_takeBack_0, c1, jm_cf (show ¬ 0 < nI 0 by decide), Option.bind_some, jm_ps, gD_undo_11, jm_ct rfl, gD_undo_26]
    · have c1 := hr.2.2.2.1.1
      rw [hn] at c1
      rw [gM_undo_0, c1, jm_cf (fun h9 => h9 rfl)]
  | succ n =>
    refine ⟨jm_I (nI n), aShW A ((aAc A).2 n) (n, (aAc A).2), hA.un hn, fun σ hc => ?_, fun σ hr => ?_⟩
    · obtain ⟨σ1, e1, e2, e3, e4⟩ := c_takeBack hc hA hn
      refine ⟨σ1, ?_, e2, Csh_cl e3⟩
      rw [gD_undo_0, e1, Option.bind_some, jm_ps, gD_undo_11, jm_cf (by decide), e4, gD_undo_26]
    · have c1 := hr.2.2.2.1.1
      rw [hn] at c1
      obtain ⟨σ1, e1, e2, e3⟩ := r_unL (jm_wi (jm_wi σ 21 0 0 0) 21 0 9 (nI n)) (n := n) (by omega) (by rw [jm_w_s, pk_us]) 26 0 (jm_wi (jm_wi σ 21 0 0 0) 21 0 9 (nI n)) rfl jm_ag.rf (fun j hj => by omega)
      have m25 : jm_ag Crh (jm_wi (jm_wi σ 21 0 0 0) 21 0 9 (nI n)) σ1 := e2.mo (fun k r h9 => by
        simp only [Crh, Bool.or_eq_false_iff] at h9
        exact h9.1.2)
      have hag : jm_ag Crh (jm_wi σ 21 0 0 0) σ1 := (jm_ag.wi rfl).tr m25
      have hS := hr.2.2.2.1.2 n (by omega)
      have h6 : ((aAc A).2 n).1 ≤ 6 := (hA.2.2.2.1.2.2 n (by omega)).1.1
      refine ⟨σ1, ?_, rRel.sh (hr.th 0) hag (fun j hj => ?_) (rS_cg hS h6 (fun j hj => e3 j hj)) ⟨?_, fun i hi => ?_⟩, (jm_ag.wi rfl).tr (Crh_rf hag)⟩
      · rw [gM_undo_0, c1, jm_ct (nI_ne0 (by omega) (by omega)), nS1 (by omega), show n + 1 - 1 = n by omega]
        exact e1
      · rw [(e2 21 0 rfl).1, jm_w_s, pk_un (by omega)]
      · rw [(e2 21 0 rfl).1, jm_w_s, pk_us]
      · have hi : i < n := hi
        rw [(e2 26 0 rfl).1]
        exact hr.2.2.2.1.2 i (by omega)
