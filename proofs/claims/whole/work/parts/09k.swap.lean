-- METHODS: change, swap, undo
def vld (y z : Int32) : Bool := (decide (y = 0) && decide (1 ≤ z.toInt ∧ z.toInt ≤ 5)) || (decide (y = 1) && decide (0 ≤ z.toInt ∧ z.toInt ≤ 40)) || (decide (y = 2) && decide (0 ≤ z.toInt ∧ z.toInt ≤ 9))
theorem r_chV (σ : jm_S) (x y z : Int32) : jm_call 60 jM_change [jm_R 21 0, jm_I x, jm_I y, jm_I z] σ = jm_ev 59 (jM_change, 60, [some (jm_R 21 0), some (jm_I x), some (jm_I y), some (jm_I z), none, none], [jm_I (bI (vld y z))], jm_wi σ 21 0 0 0) := by
  rw [gM_change_0]
  by_cases h0 : y = 0
  · subst h0
    rw [jm_cf (fun h9 => h9 rfl), r_in15, Option.bind_some, jm_ps, gM_change_18, gM_change_55, gM_change_21, jm_ct (show ¬ (0 : Int32) = 1 by decide), gM_change_38, jm_ct (show ¬ (0 : Int32) = 2 by decide), gM_change_59]
    by_cases hz : 1 ≤ z.toInt ∧ z.toInt ≤ 5
    · rw [if_pos hz, jm_ct (by decide), show vld 0 z = true by simp [vld, hz]]; rfl
    · rw [if_neg hz, jm_cf (fun h9 => h9 rfl), show vld 0 z = false by simp [vld]; omega]; rfl
  rw [jm_ct h0, gM_change_21]
  by_cases h1 : y = 1
  · subst h1
    rw [jm_cf (fun h9 => h9 rfl), r_inK 58 _ z 40 (n := 40) rfl, Option.bind_some, jm_ps, gM_change_35, gM_change_55, gM_change_38, jm_ct (show ¬ (1 : Int32) = 2 by decide), gM_change_59]
    by_cases hz : 0 ≤ z.toInt ∧ z.toInt ≤ (40 : Nat)
    · rw [if_pos hz, jm_ct (by decide), show vld 1 z = true by simp [vld]; omega]; rfl
    · rw [if_neg hz, jm_cf (fun h9 => h9 rfl), show vld 1 z = false by simp [vld]; omega]; rfl
  rw [jm_ct h1, gM_change_38]
  by_cases h2 : y = 2
  · subst h2
    rw [jm_cf (fun h9 => h9 rfl), r_inK 58 _ z 9 (n := 9) rfl, Option.bind_some, jm_ps, gM_change_52, gM_change_55, gM_change_59]
    by_cases hz : 0 ≤ z.toInt ∧ z.toInt ≤ (9 : Nat)
    · rw [if_pos hz, jm_cf (by decide), show vld 2 z = true by simp [vld]; omega]; rfl
    · rw [if_neg hz, jm_ct rfl, show vld 2 z = false by simp [vld]; omega]; rfl
  rw [jm_ct h2, gM_change_59, show vld y z = false by simp [vld, h0, h1, h2]]
  rfl
theorem c_chV (σ : jm_S) (x y z : Int32) : jm_ev 59 (jD_change, 8, [some (jm_R 0 0), some (jm_I x), some (jm_I y), some (jm_I z)], [jm_I 1], σ) = cond (vld y z) ((jm_call 59 jD_put [jm_R 0 0, jm_I x, jm_I y, jm_I z] σ).bind fun q => jm_ev 59 (jm_psh (jD_change, 51, [some (jm_R 0 0), some (jm_I x), some (jm_I y), some (jm_I z)], [], σ) q)) (some (some (jm_I (-1000001)), σ)) := by
  rw [gD_change_8, jm_cf (by decide), gD_change_20, gD_change_41]
  have z0 : (0 : Int32).toInt = 0 := rfl
  have z1 : (1 : Int32).toInt = 1 := rfl
  have z5 : (5 : Int32).toInt = 5 := rfl
  have z9 : (9 : Int32).toInt = 9 := rfl
  have z40 : (40 : Int32).toInt = 40 := rfl
  have key : ∀ (lo hi : Int32) (b : Bool), (b = true ↔ lo.toInt ≤ z.toInt ∧ z.toInt ≤ hi.toInt) → ∀ (P Q : Option (Option jm_V × jm_S)), cond (decide (z < lo)) Q (cond (decide (z ≤ hi)) P Q) = cond b P Q := by
    intro lo hi b hb P Q
    by_cases a : z < lo
    · rw [jm_ct a]
      rw [jm_ti32] at a
      cases b with
      | true => have := hb.mp rfl; omega
      | false => rfl
    · rw [jm_cf a]
      rw [jm_ti32] at a
      by_cases c : z ≤ hi
      · rw [jm_ct c]
        rw [jm_te32] at c
        cases b with
        | true => rfl
        | false => exact absurd (hb.mpr ⟨by omega, c⟩) (by simp)
      · rw [jm_cf c]
        rw [jm_te32] at c
        cases b with
        | true => have := hb.mp rfl; omega
        | false => rfl
  by_cases h0 : y = 0
  · subst h0
    exact key 1 5 (vld 0 z) (by simp [vld, z1, z5]) _ _
  by_cases h1 : y = 1
  · subst h1
    exact key 0 40 (vld 1 z) (by simp [vld, z0, z40]) _ _
  by_cases h2 : y = 2
  · subst h2
    exact key 0 9 (vld 2 z) (by simp [vld, z0, z9]) _ _
  rw [show vld y z = false by simp [vld, h0, h1, h2]]
  by_cases a : y < 0
  · rw [jm_ct a]; rfl
  · rw [jm_cf a, jm_cf]
    · rfl
    · rw [jm_ti32, z0] at a
      rw [jm_q32] at h0 h1 h2
      rw [jm_te32]
      have : (2 : Int32).toInt = 2 := rfl
      omega
theorem P_change {A : aS} (hA : okA A) (x y z : Int32) : Pair A jD_change jM_change [jm_I x, jm_I y, jm_I z] := by
  have h6 := hA.2.2.1.1
  by_cases h : 0 ≤ x.toInt ∧ x.toInt < (aSh A).1
  case neg =>
    refine ⟨jm_I (-1000001), A, hA, fun σ hc => ⟨σ, ?_, hc, jm_ag.rf⟩, fun σ hr => ⟨jm_wi σ 21 0 0 0, ?_, hr.th 0, jm_ag.wi rfl⟩⟩
    · rw [gD_change_0, c_has 58 σ 0 _ hc.2.2.1.1 h6, if_neg h, Option.bind_some, jm_ps, gD_change_8, jm_ct rfl, gD_change_20]
    · rw [r_chV, gM_change_60, r_isDisc 57 _ _ (hr.th 0).2.2.1.1 h6, if_neg h, Option.bind_some, jm_ps, gM_change_67, jm_ct rfl, gM_change_75]
  obtain ⟨i, hi, rfl⟩ := jm_nI_of h.1 h.2
  cases hv : vld y z with
  | false =>
    refine ⟨jm_I (-1000001), A, hA, fun σ hc => ⟨σ, ?_, hc, jm_ag.rf⟩, fun σ hr => ⟨jm_wi σ 21 0 0 0, ?_, hr.th 0, jm_ag.wi rfl⟩⟩
    · rw [gD_change_0, c_has 58 σ 0 _ hc.2.2.1.1 h6, if_pos h, Option.bind_some, jm_ps, c_chV, hv]
      rfl
    · rw [r_chV, gM_change_60, r_isDisc 57 _ _ (hr.th 0).2.2.1.1 h6, if_pos h, Option.bind_some, jm_ps, gM_change_67, jm_cf (by decide), hv, jm_cf (fun h9 => h9 rfl), gM_change_75]
  | true =>
    obtain ⟨u, hu, rfl⟩ : ∃ u : Nat, u < 3 ∧ y = nI u := by
      by_cases h0 : y = 0
      · exact ⟨0, by omega, h0⟩
      by_cases h1 : y = 1
      · exact ⟨1, by omega, h1⟩
      by_cases h2 : y = 2
      · exact ⟨2, by omega, h2⟩
      rw [show vld y z = false by simp [vld, h0, h1, h2]] at hv
      cases hv
    have hS : okS (sPut (aSh A) u i z) := by
      refine okS_put hA.2.2.1 (fun h9 => by omega) (fun h9 => ?_) (fun h9 => ?_) (fun h9 => ?_)
      · subst h9; simpa [vld, show nI 0 = 0 from rfl] using hv
      · subst h9; simpa [vld, show nI 1 = 1 from rfl] using hv
      · subst h9; simpa [vld, show nI 2 = 2 from rfl] using hv
    refine ⟨jm_I ((aSh A).2.2 u i), aShW A (sPut (aSh A) u i z) (acW A (sPut (aSh A) u i z)), hA.act hS rfl, fun σ hc => ?_, fun σ hr => ?_⟩
    · obtain ⟨σ1, e1, e2, e3⟩ := c_put 56 hc hA (u := u) (by omega) hi z
      refine ⟨σ1, ?_, e2, e3⟩
      rw [gD_change_0, c_has 58 σ 0 _ hc.2.2.1.1 h6, if_pos h, Option.bind_some, jm_ps, c_chV, hv, cond_true, e1, Option.bind_some, jm_ps, gD_change_51]
    · have hr' := hr.th 0
      obtain ⟨σ1, e1, e2, e3, e4⟩ := r_keep 58 hr' hA (sPut (aSh A) u i z)
      obtain ⟨f1, f2⟩ := r_putR hr' (by omega) z e2 e3 e4
      refine ⟨_, ?_, f1, (jm_ag.wi rfl).tr f2⟩
      have hs1 : rS (σ1.1 25 0) (aSh A) := by rw [(e2 25 0 rfl).1]; exact hr'.2.2.1
      have hrd : σ1.1 25 0 (2 + 4 * i + (1 + u)) = (aSh A).2.2 u i := by
        rcases (show u = 0 ∨ u = 1 ∨ u = 2 by omega) with rfl | rfl | rfl
        · exact (hs1.2.2 i hi).2.1
        · exact (hs1.2.2 i hi).2.2.1
        · exact (hs1.2.2 i hi).2.2.2
      have hro : rOff u = 1 + u := by unfold rOff; rw [if_neg (by omega)]; omega
      rw [hro, r_chV, gM_change_60, r_isDisc 57 _ _ (hr.th 0).2.2.1.1 h6, if_pos h, Option.bind_some, jm_ps, gM_change_67, jm_cf (by decide), hv, jm_ct (show ¬ bI true = 0 by decide), e1, Option.bind_some, jm_pn, gM_change_82, show (1 : Int32) + nI u = nI (1 + u) from nI_add 1 u, r_of 58 σ1 0 (show i < 6 by omega) (show 1 + u < 4 by omega), hrd, Option.bind_some, jm_ps, gM_change_93, show (2 : Int32) + 4 * nI i + 1 + nI u = nI (2 + 4 * i + (1 + u)) from by rw [show (2 : Int32) = nI 2 from rfl, show (4 : Int32) = nI 4 from rfl, show (1 : Int32) = nI 1 from rfl, pk_mul, nI_add, nI_add, nI_add, Nat.add_assoc], jm_in_nI (show 2 + 4 * i + (1 + u) < 26 by omega) (by decide), cond_true, jm_cl (by omega)]
/-- two discs changed about -/
def tw (i j d : Nat) : Nat := if d = i then j else if d = j then i else d
theorem tw_tw (i j d : Nat) : tw i j (tw i j d) = d := by unfold tw; split <;> split <;> (try split) <;> omega
theorem tw_lt {i j d n : Nat} (hi : i < n) (hj : j < n) (hd : d < n) : tw i j d < n := by unfold tw; split <;> (try split) <;> omega
abbrev sTw (S : sS) (i j : Nat) : sS := (S.1, S.2.1, fun v d => S.2.2 v (tw i j d))
theorem unR_tw (S : sS) {i j : Nat} (hi : i < S.1) (hj : j < S.1) (hij : i ≠ j) : unR 5 (nI i) (nI j) (sTw S i j) S := by
  refine ⟨rfl, Or.inr (Or.inl ⟨rfl, rfl, i, j, hi, hj, hij, rfl, rfl, fun v _ d _ => ?_⟩)⟩
  show S.2.2 v d = S.2.2 v (tw i j (tw i j d))
  rw [tw_tw]
theorem c_exL (e : Nat) (σ0 : jm_S) {q i j : Nat} (hi : i < 6) (hj : j < 6) : ∀ (f k : Nat) (σ : jm_S) (o : Option jm_V), k + f = 4 → jm_ag (fun k r => k == 9 && (Nat.ble (4 * q) r && Nat.blt r (4 * q + 4))) σ0 σ → (∀ w d, w < 4 → σ.1 9 (4 * q + w) d = if w < k then σ0.1 9 (4 * q + w) (tw i j d) else σ0.1 9 (4 * q + w) d) → ∃ σ', jm_ev e (jS_exchange, 2, [some (jm_R 7 q), some (jm_I (nI i)), some (jm_I (nI j)), some (jm_I (nI k)), o], [], σ) = some (none, σ') ∧ jm_ag (fun k r => k == 9 && (Nat.ble (4 * q) r && Nat.blt r (4 * q + 4))) σ0 σ' ∧ (∀ w d, w < 4 → σ'.1 9 (4 * q + w) d = σ0.1 9 (4 * q + w) (tw i j d))
  | 0, k, σ, o, h, ha, h1 => by
    have : k = 4 := by omega
    subst this
    refine ⟨σ, by rw [gS_exchange_2, jm_ct (show (4 : Int32) ≤ nI 4 by decide)], ha, fun w d hw => ?_⟩
    rw [h1 w d hw, if_pos hw]
  | f + 1, k, σ, o, h, ha, h1 => by
    have hC : (fun k r => k == 9 && (Nat.ble (4 * q) r && Nat.blt r (4 * q + 4))) 9 (4 * q + k) = true := by
      have a : Nat.ble (4 * q) (4 * q + k) = true := Nat.ble_eq_true_of_le (by omega)
      have b : Nat.blt (4 * q + k) (4 * q + 4) = true := Nat.ble_eq_true_of_le (by omega)
      simp only [a, b]
      rfl
    obtain ⟨σ', e1, e2⟩ := c_exL e σ0 hi hj f (k + 1) (jm_wi (jm_wi σ 9 (4 * q + k) i (σ.1 9 (4 * q + k) j)) 9 (4 * q + k) j (σ.1 9 (4 * q + k) i)) (some (jm_I (σ.1 9 (4 * q + k) i))) (by omega) (ha.tr ((jm_ag.wi hC).tr (jm_ag.wi hC))) (fun w d hw => by
      by_cases hk : w = k
      · subst hk
        rw [jm_w_s, jm_w_s, if_pos (by omega)]
        have h9 : ∀ d, σ.1 9 (4 * q + w) d = σ0.1 9 (4 * q + w) d := fun d => by rw [h1 w d hw, if_neg (by omega)]
        unfold tw
        by_cases hdj : d = j
        · subst hdj
          rw [pk_us, h9]
          by_cases hdi : d = i
          · rw [if_pos hdi, hdi]
          · rw [if_neg hdi, if_pos rfl]
        · rw [pk_un hdj]
          by_cases hdi : d = i
          · subst hdi; rw [pk_us, if_pos rfl, h9]
          · rw [pk_un hdi, if_neg hdi, if_neg hdj, h9]
      · have hne : ¬ (9 = 9 ∧ 4 * q + w = 4 * q + k) := fun h9 => hk (by omega)
        rw [jm_w_n _ _ _ hne, jm_w_n _ _ _ hne, h1 w d hw]
        by_cases hw2 : w < k
        · rw [if_pos hw2, if_pos (by omega)]
        · rw [if_neg hw2, if_neg (by omega)])
    refine ⟨σ', ?_, e2⟩
    rw [gS_exchange_2, jm_cf (show ¬ (4 : Int32) ≤ nI k from nI_ge (b := 4) (by omega) (by decide)), jm_in_nI (show k < 4 by omega) (by decide), jm_in_nI hi (by decide), jm_in_nI hj (by decide), jm_cl (show k < 2 ^ 31 by omega), jm_cl (show i < 2 ^ 31 by omega), jm_cl (show j < 2 ^ 31 by omega), nI_1]
    exact e1
theorem c_exchange (e : Nat) (σ : jm_S) {i j : Nat} (hi : i < 6) (hj : j < 6) : ∃ σ', jm_call (e + 1) jS_exchange [jm_R 7 0, jm_I (nI i), jm_I (nI j)] σ = some (none, σ') ∧ jm_ag (fun k r => k == 9 && Nat.blt r 4) σ σ' ∧ (∀ w d, w < 4 → σ'.1 9 (4 * 0 + w) d = σ.1 9 (4 * 0 + w) (tw i j d)) := by
  obtain ⟨σ', e1, e2, e3⟩ := c_exL e σ (q := 0) hi hj 4 0 σ none rfl jm_ag.rf (fun w d hw => by rw [if_neg (by omega)])
  refine ⟨σ', ?_, e2.mo (fun k r h9 => ?_), e3⟩
  · rw [gS_exchange_0]; exact e1
  · cases hk : (k == 9) with
    | false => rfl
    | true =>
      have h9 : (k == 9 && Nat.blt r 4) = false := h9
      rw [hk] at h9
      have h8 : Nat.blt r 4 = false := h9
      show (true && (Nat.ble (4 * 0) r && Nat.blt r 4)) = false
      rw [h8, Bool.and_false, Bool.and_false]
theorem C9_sh {σ σ' : jm_S} (h : jm_ag (fun k r => k == 9 && Nat.blt r 4) σ σ') : jm_ag Csh σ σ' := h.mo (fun k r h9 => by
  cases hk : (k == 9) with
  | false => rfl
  | true =>
    simp only [Csh, Bool.or_eq_false_iff] at h9
    have h8 := h9.2
    rw [hk] at h8
    have h8 : Nat.blt r 8 = false := h8
    have : Nat.blt r 4 = false := by
      cases hb : Nat.blt r 4 with
      | false => rfl
      | true =>
        rw [show Nat.blt r 8 = true from Nat.ble_eq_true_of_le (by have := Nat.le_of_ble_eq_true hb; omega)] at h8
        cases h8
    show (true && Nat.blt r 4) = false
    rw [this]; rfl)
theorem r_swL (σ0 : jm_S) {i j : Nat} (hi : i < 6) (hj : j < 6) : ∀ (f k : Nat) (σ : jm_S) (o : Option jm_V), k + f = 4 → jm_ag (fun k _ => k == 25) σ0 σ → (∀ c, c < 2 → σ.1 25 0 c = σ0.1 25 0 c) → (∀ d p, p < 4 → σ.1 25 0 (2 + 4 * d + p) = if p < k then σ0.1 25 0 (2 + 4 * tw i j d + p) else σ0.1 25 0 (2 + 4 * d + p)) → ∃ σ' o', jm_ev 59 (jM_swap, 38, [some (jm_R 21 0), some (jm_I (nI i)), some (jm_I (nI j)), some (jm_I (nI k)), o], [], σ) = jm_ev 59 (jM_swap, 38, [some (jm_R 21 0), some (jm_I (nI i)), some (jm_I (nI j)), some (jm_I (nI 4)), o'], [], σ') ∧ jm_ag (fun k _ => k == 25) σ0 σ' ∧ (∀ c, c < 2 → σ'.1 25 0 c = σ0.1 25 0 c) ∧ (∀ d p, p < 4 → σ'.1 25 0 (2 + 4 * d + p) = σ0.1 25 0 (2 + 4 * tw i j d + p))
  | 0, k, σ, o, h, ha, h0, h1 => by
    have : k = 4 := by omega
    subst this
    refine ⟨σ, o, rfl, ha, h0, fun d p hp => ?_⟩
    rw [h1 d p hp, if_pos hp]
  | f + 1, k, σ, o, h, ha, h0, h1 => by
    obtain ⟨σ', o', e1, e2⟩ := r_swL σ0 hi hj f (k + 1) (jm_wi (jm_wi σ 25 0 (2 + 4 * i + k) (σ.1 25 0 (2 + 4 * j + k))) 25 0 (2 + 4 * j + k) (σ.1 25 0 (2 + 4 * i + k))) (some (jm_I (σ.1 25 0 (2 + 4 * i + k)))) (by omega) (ha.tr ((jm_ag.wi rfl).tr (jm_ag.wi rfl))) (fun c hc => by
      rw [jm_w_s, jm_w_s, pk_un (by omega), pk_un (by omega)]; exact h0 c hc) (fun d p hp => by
      rw [jm_w_s, jm_w_s]
      by_cases hk : p = k
      · subst hk
        rw [if_pos (by omega)]
        have h9 : ∀ d, σ.1 25 0 (2 + 4 * d + p) = σ0.1 25 0 (2 + 4 * d + p) := fun d => by rw [h1 d p hp, if_neg (by omega)]
        unfold tw
        by_cases hdj : d = j
        · subst hdj
          rw [pk_us, h9]
          by_cases hdi : d = i
          · rw [if_pos hdi, hdi]
          · rw [if_neg hdi, if_pos rfl]
        · rw [pk_un (by omega)]
          by_cases hdi : d = i
          · subst hdi; rw [pk_us, if_pos rfl, h9]
          · rw [pk_un (by omega), if_neg hdi, if_neg hdj, h9]
      · rw [pk_un (by omega), pk_un (by omega), h1 d p hp]
        by_cases hw2 : p < k
        · rw [if_pos hw2, if_pos (by omega)]
        · rw [if_neg hw2, if_neg (by omega)])
    refine ⟨σ', o', ?_, e2⟩
    have ea : ∀ a : Nat, (2 : Int32) + 4 * nI a + nI k = nI (2 + 4 * a + k) := fun a => by rw [show (2 : Int32) = nI 2 from rfl, show (4 : Int32) = nI 4 from rfl, pk_mul, nI_add, nI_add]
    rw [gM_swap_38, jm_cf (show ¬ (4 : Int32) ≤ nI k from nI_ge (b := 4) (by omega) (by decide)), r_of 58 σ 0 hi (show k < 4 by omega), Option.bind_some, jm_ps, gM_swap_52, r_of 58 σ 0 hj (show k < 4 by omega), Option.bind_some, jm_ps, gM_swap_74, ea, ea, jm_in_nI (show 2 + 4 * i + k < 26 by omega) (by decide), cond_true, jm_in_nI (show 2 + 4 * j + k < 26 by omega) (by decide), cond_true, jm_cl (by omega), jm_cl (by omega), nI_1]
    exact e1
theorem P_swap {A : aS} (hA : okA A) (x y : Int32) : Pair A jD_swap jM_swap [jm_I x, jm_I y] := by
  have h6 := hA.2.2.1.1
  by_cases hx : 0 ≤ x.toInt ∧ x.toInt < (aSh A).1
  case neg =>
    refine ⟨jm_I (-1000001), A, hA, fun σ hc => ⟨σ, ?_, hc, jm_ag.rf⟩, fun σ hr => ⟨jm_wi σ 21 0 0 0, ?_, hr.th 0, jm_ag.wi rfl⟩⟩
    · rw [gD_swap_0, c_has 58 σ 0 _ hc.2.2.1.1 h6, if_neg hx, Option.bind_some, jm_ps, gD_swap_8, jm_ct rfl, gD_swap_22]
    · rw [gM_swap_0, r_isDisc 57 _ _ (hr.th 0).2.2.1.1 h6, if_neg hx, Option.bind_some, jm_ps, gM_swap_10, jm_ct rfl, gM_swap_21]
  by_cases hy : 0 ≤ y.toInt ∧ y.toInt < (aSh A).1
  case neg =>
    refine ⟨jm_I (-1000001), A, hA, fun σ hc => ⟨σ, ?_, hc, jm_ag.rf⟩, fun σ hr => ⟨jm_wi σ 21 0 0 0, ?_, hr.th 0, jm_ag.wi rfl⟩⟩
    · rw [gD_swap_0, c_has 58 σ 0 _ hc.2.2.1.1 h6, if_pos hx, Option.bind_some, jm_ps, gD_swap_8, jm_cf (by decide), c_has 58 σ 0 _ hc.2.2.1.1 h6, if_neg hy, Option.bind_some, jm_ps, gD_swap_19, jm_cf (fun h9 => h9 rfl), gD_swap_22]
    · rw [gM_swap_0, r_isDisc 57 _ _ (hr.th 0).2.2.1.1 h6, if_pos hx, Option.bind_some, jm_ps, gM_swap_10, jm_cf (by decide), r_isDisc 57 _ _ (hr.th 0).2.2.1.1 h6, if_neg hy, Option.bind_some, jm_ps, gM_swap_18, jm_cf (fun h9 => h9 rfl), gM_swap_21]
  have hcS : ∀ σ, cRel σ A → jm_call 60 jD_swap [jm_R 0 0, jm_I x, jm_I y] σ = jm_ev 59 (jD_swap, 19, [some (jm_R 0 0), some (jm_I x), some (jm_I y)], [jm_I 1], σ) := fun σ hc => by
    rw [gD_swap_0, c_has 58 σ 0 _ hc.2.2.1.1 h6, if_pos hx, Option.bind_some, jm_ps, gD_swap_8, jm_cf (by decide), c_has 58 σ 0 _ hc.2.2.1.1 h6, if_pos hy, Option.bind_some, jm_ps]
  have hrS : ∀ σ, rRel σ A → jm_call 60 jM_swap [jm_R 21 0, jm_I x, jm_I y] σ = jm_ev 59 (jM_swap, 18, [some (jm_R 21 0), some (jm_I x), some (jm_I y), none, none], [jm_I 1], jm_wi σ 21 0 0 0) := fun σ hr => by
    rw [gM_swap_0, r_isDisc 57 _ _ (hr.th 0).2.2.1.1 h6, if_pos hx, Option.bind_some, jm_ps, gM_swap_10, jm_cf (by decide), r_isDisc 57 _ _ (hr.th 0).2.2.1.1 h6, if_pos hy, Option.bind_some, jm_ps]
  by_cases hxy : x = y
  · refine ⟨jm_I (-1000002), A, hA, fun σ hc => ⟨σ, ?_, hc, jm_ag.rf⟩, fun σ hr => ⟨jm_wi σ 21 0 0 0, ?_, hr.th 0, jm_ag.wi rfl⟩⟩
    · rw [hcS σ hc, gD_swap_19, jm_ct (by decide), jm_cf (fun h9 => h9 hxy)]
    · rw [hrS σ hr, gM_swap_18, jm_ct (by decide), jm_cf (fun h9 => h9 hxy)]
  obtain ⟨i, hi, rfl⟩ := jm_nI_of hx.1 hx.2
  obtain ⟨j, hj, rfl⟩ := jm_nI_of hy.1 hy.2
  have hij : i ≠ j := fun h9 => hxy (by rw [h9])
  have hS : okS (sTw (aSh A) i j) := ⟨h6, hA.2.2.1.2.1, hA.2.2.1.2.2.1, fun d hd => hA.2.2.1.2.2.2 (tw i j d) (tw_lt hi hj hd)⟩
  refine ⟨jm_I ((if 0 ≤ nI i - nI j then nI i - nI j else 0 - (nI i - nI j)) + 1), aShW A (sTw (aSh A) i j) (acW A (sTw (aSh A) i j)), hA.act hS rfl, fun σ hc => ?_, fun σ hr => ?_⟩
  · obtain ⟨σ1, e1, e2, e3⟩ := c_keep 57 hc hA (unR_tw (aSh A) hi hj hij)
    have hs1 : cS σ1 0 (aSh A) := cS_ag hc.2.2.1 e2 rfl (fun _ _ => rfl)
    obtain ⟨σ2, f1, f2, f3⟩ := c_exchange 58 σ1 (i := i) (j := j) (by omega) (by omega)
    refine ⟨σ2, ?_, cRel.sh hc ((Cac_sh e2).tr (C9_sh f2)) ⟨?_, ?_, fun w hw d hd => ?_⟩ ?_, Csh_cl ((Cac_sh e2).tr (C9_sh f2))⟩
    · rw [hcS σ hc, gD_swap_19, jm_ct (by decide), jm_ct hxy, e1, Option.bind_some, jm_pn, gD_swap_43, f1, Option.bind_some, jm_pn, gD_swap_52]
    · rw [(f2 7 0 rfl).1]; exact hs1.1
    · rw [(f2 7 0 rfl).1]; exact hs1.2.1
    · rw [f3 w d hw]; exact hs1.2.2 w hw _ (tw_lt hi hj hd)
    · rw [(f2 10 0 rfl).1, (f2 11 0 rfl).1, (f2 12 0 rfl).1, (f2 13 0 rfl).1]; exact e3
  · have hr' := hr.th 0
    obtain ⟨σ1, e1, e2, e3, e4⟩ := r_keep 58 hr' hA (sTw (aSh A) i j)
    have hs1 : rS (σ1.1 25 0) (aSh A) := by rw [(e2 25 0 rfl).1]; exact hr'.2.2.1
    obtain ⟨σ2, o', f1, f2, f3, f4⟩ := r_swL σ1 (i := i) (j := j) (by omega) (by omega) 4 0 σ1 none rfl jm_ag.rf (fun _ _ => rfl) (fun d p hp => by rw [if_neg (by omega)])
    have m25 : jm_ag Crh σ1 σ2 := f2.mo (fun k r h9 => by
      simp only [Crh, Bool.or_eq_false_iff] at h9
      exact h9.1.2)
    refine ⟨σ2, ?_, rRel.sh hr' ((C2126_rh e2).tr m25) (fun j' hj' => by rw [(f2 21 0 rfl).1]; exact e3 j' (by omega)) ⟨?_, ?_, fun d hd => ?_⟩ ?_, (jm_ag.wi rfl).tr (Crh_rf ((C2126_rh e2).tr m25))⟩
    · have f1' : jm_ev 59 (jM_swap, 38, [some (jm_R 21 0), some (jm_I (nI i)), some (jm_I (nI j)), some (jm_I 0), none], [], σ1) = _ := f1
      rw [hrS σ hr, gM_swap_18, jm_ct (by decide), jm_ct hxy, e1, Option.bind_some, jm_pn, gM_swap_36, f1', gM_swap_38, jm_ct (show (4 : Int32) ≤ nI 4 by decide), gM_swap_109, gM_swap_109]
      have hd : (nI i - nI j).toInt = (i : Int) - j := pk_sub_toInt (by omega) (by omega)
      by_cases hle : j ≤ i
      · rw [jm_ct (nI_le hle (by omega)), if_pos]
        rw [jm_te32, hd]
        show (0 : Int) ≤ _
        omega
      · rw [jm_cf (nI_ge (by omega) (by omega)), if_neg]
        · have : 0 - (nI i - nI j) = nI j - nI i := by
            rw [jm_q32, pk_sub_toInt (by omega) (by omega), Int32.toInt_sub, hd, show (0 : Int32).toInt = 0 from rfl]
            unfold Int.bmod
            dsimp only
            split <;> omega
          rw [this]
        · rw [jm_te32, hd]
          show ¬ (0 : Int) ≤ _
          omega
    · rw [f3 0 (by omega)]; exact hs1.1
    · rw [f3 1 (by omega)]; exact hs1.2.1
    · obtain ⟨a, b, c, g⟩ := hs1.2.2 (tw i j d) (tw_lt hi hj hd)
      exact ⟨(f4 d 0 (by omega)).trans a, (f4 d 1 (by omega)).trans b, (f4 d 2 (by omega)).trans c, (f4 d 3 (by omega)).trans g⟩
    · rw [(f2 21 0 rfl).1, (f2 26 0 rfl).1]; exact e4
