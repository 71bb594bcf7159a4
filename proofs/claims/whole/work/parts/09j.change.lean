-- METHODS: mark, change, become
/-- a shaft with another mark; with another number at a disc -/
abbrev sMk (S : sS) (x : Int32) : sS := (S.1, x, S.2.2)
abbrev sPut (S : sS) (u i : Nat) (x : Int32) : sS := (S.1, S.2.1, fun v d => if v = u ∧ d = i then x else S.2.2 v d)
theorem unR_mk (S : sS) (x o : Int32) : unR 4 o S.2.1 (sMk S x) S := ⟨rfl, Or.inl ⟨rfl, rfl, fun _ _ _ _ => rfl⟩⟩
theorem unR_put (S : sS) {u i : Nat} (hu : u < 4) (hi : i < S.1) (x : Int32) : unR (nI u) (nI i) (S.2.2 u i) (sPut S u i x) S :=
  ⟨rfl, Or.inr (Or.inr ⟨u, i, hu, hi, rfl, rfl, rfl, rfl, fun v _ d _ h9 => (if_neg h9).symm⟩)⟩
theorem C2126_rh {σ σ' : jm_S} (h : jm_ag (fun k _ => k == 21 || k == 26) σ σ') : jm_ag Crh σ σ' := h.mo (fun k r h9 => by
  simp only [Crh, Bool.or_eq_false_iff] at h9
  simp only [h9.1.1.1.1, h9.2]
  rfl)
theorem P_mark {A : aS} (hA : okA A) (x : Int32) : Pair A jD_mark jM_mark [jm_I x] := by
  have h6 := hA.2.2.1.1
  by_cases h0 : (aSh A).1 = 0
  · refine ⟨jm_I (-1000002), A, hA, fun σ hc => ⟨σ, ?_, hc, jm_ag.rf⟩, fun σ hr => ⟨jm_wi σ 21 0 0 0, ?_, hr.th 0, jm_ag.wi rfl⟩⟩
    · rw [gD_mark_0, hc.2.2.1.1, h0, jm_cf (fun h9 => h9 rfl)]
    · rw [gM_mark_0, r_isThere 58 _ (hr.th 0).2.2.1.1 h6, if_pos h0, Option.bind_some, jm_ps, gM_mark_9, jm_cf (fun h9 => h9 rfl)]
  · have hne : ¬ nI (aSh A).1 = 0 := nI_ne0 (by omega) (by omega)
    by_cases h : 0 ≤ x.toInt ∧ x.toInt ≤ 200
    · have hS : okS (sMk (aSh A) x) := ⟨hA.2.2.1.1, hA.2.2.1.2.1, h, hA.2.2.1.2.2.2⟩
      refine ⟨jm_I (aSh A).2.1, aShW A (sMk (aSh A) x) (acW A (sMk (aSh A) x)), hA.act hS rfl, fun σ hc => ?_, fun σ hr => ?_⟩
      · obtain ⟨σ1, e1, e2, e3⟩ := c_keep 57 hc hA (unR_mk (aSh A) x 0)
        have hs1 : cS σ1 0 (aSh A) := cS_ag hc.2.2.1 e2 rfl (fun _ _ => rfl)
        refine ⟨jm_wi σ1 7 0 2 x, ?_, cRel.sh hc ((Cac_sh e2).tr (jm_ag.wi rfl)) ⟨hs1.1, rfl, hs1.2.2⟩ e3, (Csh_cl (Cac_sh e2)).tr (jm_ag.wi rfl)⟩
        rw [gD_mark_0, hc.2.2.1.1, jm_ct hne, c_isMark, if_pos h, Option.bind_some, jm_ps, gD_mark_17, jm_ct (by decide), hc.2.2.1.2.1, e1, Option.bind_some, jm_pn, gD_mark_41]
      · have hr' := hr.th 0
        obtain ⟨σ1, e1, e2, e3, e4⟩ := r_keep 58 hr' hA (sMk (aSh A) x)
        have hs1 : rS (σ1.1 25 0) (aSh A) := by rw [(e2 25 0 rfl).1]; exact hr'.2.2.1
        refine ⟨jm_wi σ1 25 0 1 x, ?_, rRel.sh hr' ((C2126_rh e2).tr (jm_ag.wi rfl)) (fun j hj => e3 j (by omega)) ?_ e4, ((jm_ag.wi rfl).tr (Crh_rf (C2126_rh e2))).tr (jm_ag.wi rfl)⟩
        · rw [gM_mark_0, r_isThere 58 _ hr'.2.2.1.1 h6, if_neg h0, Option.bind_some, jm_ps, gM_mark_9, jm_ct (by decide), r_inM, if_pos h, Option.bind_some, jm_ps, gM_mark_24, jm_ct (by decide), e1, Option.bind_some, jm_pn, gM_mark_34, hs1.2.1]
        · rw [jm_w_s]
          refine ⟨by rw [pk_un (by decide)]; exact hs1.1, pk_us, fun d hd => ?_⟩
          rw [pk_un (by omega), pk_un (by omega), pk_un (by omega), pk_un (by omega)]
          exact hs1.2.2 d hd
    · refine ⟨jm_I (-1000001), A, hA, fun σ hc => ⟨σ, ?_, hc, jm_ag.rf⟩, fun σ hr => ⟨jm_wi σ 21 0 0 0, ?_, hr.th 0, jm_ag.wi rfl⟩⟩
      · rw [gD_mark_0, hc.2.2.1.1, jm_ct hne, c_isMark, if_neg h, Option.bind_some, jm_ps, gD_mark_17, jm_cf (fun h9 => h9 rfl)]
      · rw [gM_mark_0, r_isThere 58 _ (hr.th 0).2.2.1.1 h6, if_neg h0, Option.bind_some, jm_ps, gM_mark_9, jm_ct (by decide), r_inM, if_neg h, Option.bind_some, jm_ps, gM_mark_24, jm_cf (fun h9 => h9 rfl)]
theorem c_put (e : Nat) {σ : jm_S} {A : aS} (hc : cRel σ A) (hA : okA A) {u i : Nat} (hu : u < 4) (hi : i < (aSh A).1) (x : Int32) : ∃ σ1, jm_call (e + 3) jD_put [jm_R 0 0, jm_I (nI i), jm_I (nI u), jm_I x] σ = some (some (jm_I ((aSh A).2.2 u i)), σ1) ∧ cRel σ1 (aShW A (sPut (aSh A) u i x) (acW A (sPut (aSh A) u i x))) ∧ jm_ag Ccl σ σ1 := by
  have h6 := hA.2.2.1.1
  obtain ⟨σ1, e1, e2, e3⟩ := c_keep e hc hA (unR_put (aSh A) hu hi x)
  have hs1 : cS σ1 0 (aSh A) := cS_ag hc.2.2.1 e2 rfl (fun _ _ => rfl)
  have hin4 : jm_in3 (nI u) 4 = true := jm_in_nI hu (by decide)
  have hin6 : jm_in3 (nI i) 6 = true := jm_in_nI (by omega) (by decide)
  have h8 : Csh 9 (0 + u) = true := by rcases (show u = 0 ∨ u = 1 ∨ u = 2 ∨ u = 3 by omega) with rfl | rfl | rfl | rfl <;> rfl
  have h8' : Ccl 9 (0 + u) = true := rfl
  have hrd : σ.1 9 (0 + u) i = (aSh A).2.2 u i := by
    have := hc.2.2.1.2.2 u hu i hi
    rw [show 4 * 0 + u = 0 + u by omega] at this
    exact this
  refine ⟨jm_wi σ1 9 (0 + u) i x, ?_, cRel.sh hc ((Cac_sh e2).tr (jm_ag.wi h8)) ⟨hs1.1, hs1.2.1, fun w hw d hd => ?_⟩ e3, (Csh_cl (Cac_sh e2)).tr (jm_ag.wi h8')⟩
  · rw [gD_put_0, hin4, cond_true, hin6, cond_true, jm_cl (by omega), jm_cl (by omega), hrd, e1, Option.bind_some, jm_pn, gD_put_24, hin4, cond_true, hin6, cond_true, jm_cl (by omega), jm_cl (by omega)]
  · show (jm_wi σ1 9 (0 + u) i x).1 9 (4 * 0 + w) d = if w = u ∧ d = i then x else (aSh A).2.2 w d
    by_cases hw2 : w = u
    · subst hw2
      rw [show 4 * 0 + w = 0 + w by omega, jm_w_s]
      by_cases hd2 : d = i
      · subst hd2; rw [pk_us, if_pos ⟨rfl, rfl⟩]
      · rw [pk_un hd2, if_neg (fun h9 => hd2 h9.2), show 0 + w = 4 * 0 + w by omega]
        exact hs1.2.2 w hw d hd
    · rw [jm_w_n _ _ _ (fun h9 => hw2 (by omega)), if_neg (fun h9 => hw2 h9.1)]
      exact hs1.2.2 w hw d hd
/-- where the reference keeps a number -/
def rOff (u : Nat) : Nat := if u = 3 then 0 else u + 1
theorem rS_put {R : Nat → Int32} {S : sS} (h : rS R S) {u i : Nat} (hu : u < 4) (x : Int32) : rS (upd R (2 + 4 * i + rOff u) x) (sPut S u i x) := by
  have ho : rOff u < 4 := by unfold rOff; split <;> omega
  refine ⟨by rw [pk_un (by omega)]; exact h.1, by rw [pk_un (by omega)]; exact h.2.1, fun d hd => ?_⟩
  obtain ⟨a, b, c, g⟩ := h.2.2 d hd
  show upd R (2 + 4 * i + rOff u) x (2 + 4 * d) = (if 3 = u ∧ d = i then x else S.2.2 3 d) ∧ upd R (2 + 4 * i + rOff u) x (2 + 4 * d + 1) = (if 0 = u ∧ d = i then x else S.2.2 0 d) ∧ upd R (2 + 4 * i + rOff u) x (2 + 4 * d + 2) = (if 1 = u ∧ d = i then x else S.2.2 1 d) ∧ upd R (2 + 4 * i + rOff u) x (2 + 4 * d + 3) = (if 2 = u ∧ d = i then x else S.2.2 2 d)
  rw [← a, ← b, ← c, ← g]
  have key : ∀ v p : Nat, v < 4 → p = rOff v → upd R (2 + 4 * i + rOff u) x (2 + 4 * d + p) = if v = u ∧ d = i then x else R (2 + 4 * d + p) := by
    intro v p hv hp
    subst hp
    have hinj : rOff v = rOff u → v = u := by unfold rOff; split <;> split <;> omega
    have hv4 : rOff v < 4 := by unfold rOff; split <;> omega
    by_cases h9 : v = u ∧ d = i
    · rw [h9.1, h9.2, pk_us, if_pos ⟨rfl, rfl⟩]
    · rw [if_neg h9, pk_un]
      intro h8
      have hdi : d = i := by omega
      subst hdi
      exact h9 ⟨hinj (by omega), rfl⟩
  exact ⟨key 3 0 (by omega) rfl, key 0 1 (by omega) rfl, key 1 2 (by omega) rfl, key 2 3 (by omega) rfl⟩
theorem r_putR {σ : jm_S} {A : aS} (hr : rRel σ A) {u i : Nat} (hu : u < 4) (x : Int32) {σ1 : jm_S} (e2 : jm_ag (fun k _ => k == 21 || k == 26) σ σ1) (e3 : ∀ j, j ≠ 9 → σ1.1 21 0 j = σ.1 21 0 j) (e4 : rAc (σ1.1 21 0) (σ1.1 26 0) (aShW A (sPut (aSh A) u i x) (acW A (sPut (aSh A) u i x)))) : rRel (jm_wi σ1 25 0 (2 + 4 * i + rOff u) x) (aShW A (sPut (aSh A) u i x) (acW A (sPut (aSh A) u i x))) ∧ jm_ag Crf σ (jm_wi σ1 25 0 (2 + 4 * i + rOff u) x) := by
  have hs1 : rS (σ1.1 25 0) (aSh A) := by rw [(e2 25 0 rfl).1]; exact hr.2.2.1
  exact ⟨rRel.sh hr ((C2126_rh e2).tr (jm_ag.wi rfl)) (fun j hj => e3 j (by omega)) (by rw [jm_w_s]; exact rS_put hs1 hu x) e4, (Crh_rf (C2126_rh e2)).tr (jm_ag.wi rfl)⟩
theorem okS_put {S : sS} (h : okS S) {u i : Nat} {x : Int32} (h3 : u = 3 → 1 ≤ x.toInt ∧ x.toInt ≤ 5) (h0 : u = 0 → 1 ≤ x.toInt ∧ x.toInt ≤ 5) (h1 : u = 1 → 0 ≤ x.toInt ∧ x.toInt ≤ 40) (h2 : u = 2 → 0 ≤ x.toInt ∧ x.toInt ≤ 9) : okS (sPut S u i x) := by
  refine ⟨h.1, h.2.1, h.2.2.1, fun d hd => ?_⟩
  obtain ⟨a, b, c, g⟩ := h.2.2.2 d hd
  have key : ∀ (v : Nat) (P : Int → Prop), (u = v → P x.toInt) → P (S.2.2 v d).toInt → P ((sPut S u i x).2.2 v d).toInt := by
    intro v P hp hq
    show P (if v = u ∧ d = i then x else S.2.2 v d).toInt
    by_cases h9 : v = u ∧ d = i
    · rw [if_pos h9]; exact hp h9.1.symm
    · rw [if_neg h9]; exact hq
  exact ⟨key 0 (fun z => 1 ≤ z ∧ z ≤ 5) h0 a, key 1 (fun z => 0 ≤ z ∧ z ≤ 40) h1 b, key 2 (fun z => 0 ≤ z ∧ z ≤ 9) h2 c, key 3 (fun z => 1 ≤ z ∧ z ≤ 5) h3 g⟩
theorem r_in15 (e : Nat) (σ : jm_S) (x : Int32) : jm_call (e + 1) jM_in [jm_L x.toInt64, jm_L 1, jm_L 5] σ = some (some (jm_I (if 1 ≤ x.toInt ∧ x.toInt ≤ 5 then 1 else 0)), σ) := by
  rw [r_in]
  simp only [jm_i64, show (1 : Int64).toInt = 1 from rfl, show (5 : Int64).toInt = 5 from rfl]
theorem P_become {A : aS} (hA : okA A) (x y : Int32) : Pair A jD_become jM_become [jm_I x, jm_I y] := by
  have h6 := hA.2.2.1.1
  by_cases h : 0 ≤ x.toInt ∧ x.toInt < (aSh A).1
  case neg =>
    refine ⟨jm_I (-1000001), A, hA, fun σ hc => ⟨σ, ?_, hc, jm_ag.rf⟩, fun σ hr => ⟨jm_wi σ 21 0 0 0, ?_, hr.th 0, jm_ag.wi rfl⟩⟩
    · rw [gD_become_0, c_has 58 σ 0 _ hc.2.2.1.1 h6, if_neg h, Option.bind_some, jm_ps, gD_become_8, jm_ct rfl, gD_become_21]
    · rw [gM_become_0, r_isDisc 57 _ _ (hr.th 0).2.2.1.1 h6, if_neg h, Option.bind_some, jm_ps, gM_become_10, jm_ct rfl, gM_become_25]
  obtain ⟨i, hi, rfl⟩ := jm_nI_of h.1 h.2
  have z1 : (1 : Int32).toInt = 1 := rfl
  have z5 : (5 : Int32).toInt = 5 := rfl
  by_cases hy : 1 ≤ y.toInt ∧ y.toInt ≤ 5
  case neg =>
    refine ⟨jm_I (-1000001), A, hA, fun σ hc => ⟨σ, ?_, hc, jm_ag.rf⟩, fun σ hr => ⟨jm_wi σ 21 0 0 0, ?_, hr.th 0, jm_ag.wi rfl⟩⟩
    · rw [gD_become_0, c_has 58 σ 0 _ hc.2.2.1.1 h6, if_pos h, Option.bind_some, jm_ps, gD_become_8, jm_cf (by decide), gD_become_21]
      by_cases h1 : y < 1
      · rw [jm_ct h1]
      · rw [jm_cf h1, jm_cf]
        rw [jm_te32]
        rw [jm_ti32] at h1
        omega
    · rw [gM_become_0, r_isDisc 57 _ _ (hr.th 0).2.2.1.1 h6, if_pos h, Option.bind_some, jm_ps, gM_become_10, jm_cf (by decide), r_in15, if_neg hy, Option.bind_some, jm_ps, gM_become_22, jm_cf (fun h9 => h9 rfl), gM_become_25]
  have hy1 : ¬ y < 1 := by rw [jm_ti32]; omega
  have hy5 : y ≤ 5 := by rw [jm_te32]; omega
  have hin6 : jm_in3 (nI i) 6 = true := jm_in_nI (by omega) (by decide)
  have hcr : ∀ σ, cRel σ A → σ.1 9 3 i = (aSh A).2.2 3 i := fun σ hc => hc.2.2.1.2.2 3 (by omega) i hi
  have hrr : ∀ σ, rRel σ A → σ.1 25 0 (2 + 4 * i) = (aSh A).2.2 3 i := fun σ hr => (hr.2.2.1.2.2 i hi).1
  by_cases hk : (aSh A).2.2 3 i = y
  · refine ⟨jm_I (-1000002), A, hA, fun σ hc => ⟨σ, ?_, hc, jm_ag.rf⟩, fun σ hr => ⟨jm_wi σ 21 0 0 0, ?_, hr.th 0, jm_ag.wi rfl⟩⟩
    · rw [gD_become_0, c_has 58 σ 0 _ hc.2.2.1.1 h6, if_pos h, Option.bind_some, jm_ps, gD_become_8, jm_cf (by decide), jm_cf hy1, jm_ct hy5, hin6, cond_true, jm_cl (by omega), hcr σ hc, jm_cf (fun h9 => h9 hk)]
    · rw [gM_become_0, r_isDisc 57 _ _ (hr.th 0).2.2.1.1 h6, if_pos h, Option.bind_some, jm_ps, gM_become_10, jm_cf (by decide), r_in15, if_pos hy, Option.bind_some, jm_ps, gM_become_22, jm_ct (by decide), r_of0 58 _ 0 (show i < 6 by omega), hrr _ (hr.th 0), Option.bind_some, jm_ps, gM_become_37, jm_cf (fun h9 => h9 hk)]
  · have hS : okS (sPut (aSh A) 3 i y) := okS_put hA.2.2.1 (fun _ => hy) (fun h9 => by omega) (fun h9 => by omega) (fun h9 => by omega)
    refine ⟨jm_I ((aSh A).2.2 3 i), aShW A (sPut (aSh A) 3 i y) (acW A (sPut (aSh A) 3 i y)), hA.act hS rfl, fun σ hc => ?_, fun σ hr => ?_⟩
    · obtain ⟨σ1, e1, e2, e3⟩ := c_put 56 hc hA (u := 3) (by omega) hi y
      refine ⟨σ1, ?_, e2, e3⟩
      have e1' : jm_call 59 jD_put [jm_R 0 0, jm_I (nI i), jm_I 3, jm_I y] σ = _ := e1
      rw [gD_become_0, c_has 58 σ 0 _ hc.2.2.1.1 h6, if_pos h, Option.bind_some, jm_ps, gD_become_8, jm_cf (by decide), jm_cf hy1, jm_ct hy5, hin6, cond_true, jm_cl (by omega), hcr σ hc, jm_ct hk, e1', Option.bind_some, jm_ps, gD_become_49]
    · have hr' := hr.th 0
      obtain ⟨σ1, e1, e2, e3, e4⟩ := r_keep 58 hr' hA (sPut (aSh A) 3 i y)
      obtain ⟨f1, f2⟩ := r_putR hr' (by omega) y e2 e3 e4
      refine ⟨_, ?_, f1, (jm_ag.wi rfl).tr f2⟩
      rw [gM_become_0, r_isDisc 57 _ _ (hr.th 0).2.2.1.1 h6, if_pos h, Option.bind_some, jm_ps, gM_become_10, jm_cf (by decide), r_in15, if_pos hy, Option.bind_some, jm_ps, gM_become_22, jm_ct (by decide), r_of0 58 _ 0 (show i < 6 by omega), hrr _ (hr.th 0), Option.bind_some, jm_ps, gM_become_37, jm_ct hk, e1, Option.bind_some, jm_pn, gM_become_50, show (2 : Int32) + 4 * nI i = nI (2 + 4 * i) from by rw [show (2 : Int32) = nI 2 from rfl, show (4 : Int32) = nI 4 from rfl, pk_mul, nI_add], jm_in_nI (show 2 + 4 * i < 26 by omega) (by decide), cond_true, jm_cl (by omega)]
      rfl
