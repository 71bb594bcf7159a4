-- METHODS: drawn, the loops
def dwA (o : Option Nat) (a : Int32) : Int32 := match o with
  | none => a
  | some c => a + nI c
def dwB (o : Option Nat) (b : Int32) : Int32 := match o with
  | none => b + 1
  | some _ => b
def it {α : Type} (h : α → α) : Nat → α → α
  | 0, s => s
  | f + 1, s => it h f (h s)
theorem it_s {α : Type} (h : α → α) (f : Nat) (s : α) : it h (f + 1) s = it h f (h s) := rfl
abbrev dR : Type := Int64 × Int32 × Int32 × sS
def dst (s : dR) : dR := (nx s.1, dwA (BS (dT s.2.2.2 (nx s.1)) (dT s.2.2.2 (nx s.1)).2.1) s.2.1, dwB (BS (dT s.2.2.2 (nx s.1)) (dT s.2.2.2 (nx s.1)).2.1) s.2.2.1, dT s.2.2.2 (nx s.1))
theorem dst_e (l : Int64) (a b : Int32) (T : sS) : dst (l, a, b, T) = (nx l, dwA (BS (dT T (nx l)) (dT T (nx l)).2.1) a, dwB (BS (dT T (nx l)) (dT T (nx l)).2.1) b, dT T (nx l)) := by unfold dst; rfl
def dV (z : Int32) (p : dR) : Int32 := if z = 0 then p.2.1 else p.2.2.1
theorem bR_ne {c : Nat} (h : c ≤ 6) : ¬ bR (some c) = -1000016 := fun h9 => by
  have := (bR_ov (o := some c) (fun c' h8 => by cases h8; omega)).mp h9
  cases this
theorem c_dwS {N k : Nat} (hk : k < N) (hN : N ≤ 40) (x2 z a b : Int32) {l l' : Int64} (hl : (l * 16807) - (l * 16807) / 2147483647 * 2147483647 = l') (o9 : Option jm_V) (σ σ1 σ2 : jm_S) (o : Option Nat) (ho : ∀ c, o = some c → c ≤ 6) (e1 : jm_call 59 jD_drawOne [jm_R 0 0, jm_L l'] σ = some (none, σ1)) (e2 : jm_call 59 jD_belowMarkTried [jm_R 0 0] σ1 = some (some (jm_I (bR o)), σ2)) : jm_ev 59 (jD_drawn, 70, [some (jm_R 0 0), some (jm_I (nI N)), some (jm_I x2), some (jm_I z), some (jm_L l), none, some (jm_I a), some (jm_I b), some (jm_I (nI k)), o9], [], σ) = jm_ev 59 (jD_drawn, 70, [some (jm_R 0 0), some (jm_I (nI N)), some (jm_I x2), some (jm_I z), some (jm_L l'), none, some (jm_I (dwA o a)), some (jm_I (dwB o b)), some (jm_I (nI (k + 1))), some (jm_I (bR o))], [], σ2) := by
  rw [gD_drawn_70, jm_cf (nI_ge hk (by omega)), hl, e1, Option.bind_some, jm_pn, gD_drawn_94, e2, Option.bind_some, jm_ps, gD_drawn_98, gD_drawn_120, gD_drawn_120, nI_1 k]
  cases o with
  | none => rw [jm_cf (fun h9 => h9 rfl)]; rfl
  | some c => rw [jm_ct (bR_ne (ho c rfl))]; rfl
theorem c_dwL (σ0 : jm_S) {N : Nat} (hN : N ≤ 40) (x2 z : Int32) : ∀ (f k : Nat) (l : Int64) (a b : Int32) (T : sS) (o9 : Option jm_V) (σ : jm_S), k + f = N → 0 ≤ l.toInt → l.toInt < 2147483648 → 1 ≤ T.1 → T.1 ≤ 6 → cS σ 1 T → jm_ag Csc σ0 σ → ∃ σ', jm_ev 59 (jD_drawn, 70, [some (jm_R 0 0), some (jm_I (nI N)), some (jm_I x2), some (jm_I z), some (jm_L l), none, some (jm_I a), some (jm_I b), some (jm_I (nI k)), o9], [], σ) = some (some (jm_I (dV z (it dst f (l, a, b, T)))), σ') ∧ jm_ag Csc σ0 σ' := by
  intro f
  induction f with
  | zero =>
    intro k l a b T o9 σ h h0 h1 hn h6 hs ha
    have : k = N := by omega
    subst this
    refine ⟨σ, ?_, ha⟩
    rw [gD_drawn_70, jm_ct (nI_le (Nat.le_refl _) (by omega)), gD_drawn_137, gD_drawn_137]
    unfold dV
    by_cases hz : z = 0
    · rw [jm_cf (fun h9 => h9 hz), if_pos hz]; rfl
    · rw [jm_ct hz, if_neg hz]; rfl
  | succ f ih =>
    intro k l a b T o9 σ h h0 h1 hn h6 hs ha
    obtain ⟨n0, n1⟩ := nx_ok h0 h1
    obtain ⟨σ1, e1, e2, e3⟩ := c_drawOne 57 σ hs hn h6 n0
    have h61 : (dT T (nx l)).1 ≤ 6 := by rw [dT_1]; exact h6
    have hn1 : 1 ≤ (dT T (nx l)).1 := by rw [dT_1]; exact hn
    obtain ⟨σ2, f1, f2⟩ := c_bmt 55 σ1 (T := dT T (nx l)) h61 e2
    have hag : jm_ag Csc σ0 σ2 := (ha.tr e3).tr (C1418_sc f2)
    have hs2 : cS σ2 1 (dT T (nx l)) := cS_ag e2 f2 rfl (fun _ _ => rfl)
    rw [it_s, dst_e]
    have hle : ∀ c, BS (dT T (nx l)) (dT T (nx l)).2.1 = some c → c ≤ 6 := fun c h9 => Nat.le_trans (BS_le h9) h61
    rw [c_dwS (show k < N by omega) hN x2 z a b (nx_d l).symm o9 σ σ1 σ2 _ hle e1 f1]
    exact ih (k + 1) (nx l) _ _ (dT T (nx l)) _ σ2 (by omega) n0 n1 hn1 h61 hs2 hag
theorem ix42 (i : Nat) : (2 : Int32) + 4 * nI i = nI (2 + 4 * i) := by rw [show (2 : Int32) = nI 2 from rfl, show (4 : Int32) = nI 4 from rfl, pk_mul, nI_add]
theorem r_dO (σ : jm_S) {T : sS} {l : Int64} (hs : rS (σ.1 25 2) T) (hn : 1 ≤ T.1) (h6 : T.1 ≤ 6) (h0 : 0 ≤ l.toInt) (x1 x2 x3 x6 x7 x8 : Int32) (o9 o10 : Option jm_V) : ∃ (σ' : jm_S) (x9 : Int32), jm_ev 59 (jM_drawn, 87, [some (jm_R 21 0), some (jm_I x1), some (jm_I x2), some (jm_I x3), some (jm_L l), none, some (jm_I x6), some (jm_I x7), some (jm_I x8), o9, o10], [], σ) = jm_ev 59 (jM_drawn, 160, [some (jm_R 21 0), some (jm_I x1), some (jm_I x2), some (jm_I x3), some (jm_L l), none, some (jm_I x6), some (jm_I x7), some (jm_I x8), some (jm_I x9), o10], [], σ') ∧ rS (σ'.1 25 2) (dT T l) ∧ jm_ag (fun k r => k == 25 && r == 2) σ σ' := by
  obtain ⟨i, hi, hd⟩ := dI_ok hn h6 h0
  have hne64 : ¬ (nI T.1).toInt64 = 0 := fun h9 => by
    have := congrArg Int64.toInt h9
    rw [jm_i64, nI_toInt (by omega), show (0 : Int64).toInt = 0 from rfl] at this
    omega
  have hd' : (l - l / ((nI T.1).toInt64) * ((nI T.1).toInt64)).toInt32 = nI i := hd
  have hcl : (nI i).toNatClampNeg = i := jm_cl (by omega)
  have hdT : dT T l = if lg_cmp (l - l / 3 * 3) 0 = 0 then sPut T 1 i (v1 l) else sPut T 0 i (v0 l) := by unfold dT; rw [hd, hcl]
  rw [hdT, gM_drawn_87, hs.1, jm_ct hne64, hd', gM_drawn_104, ix42]
  by_cases h3 : lg_cmp (l - l / 3 * 3) 0 = 0
  · rw [jm_cf (fun h9 => h9 h3), if_pos h3, show nI (2 + 4 * i) + 2 = nI (2 + 4 * i + 2) from nI_add _ 2, jm_in_nI (show 2 + 4 * i + 2 < 26 by omega) (by decide), cond_true, jm_cl (show 2 + 4 * i + 2 < 2 ^ 31 by omega)]
    refine ⟨jm_wi σ 25 2 (2 + 4 * i + 2) (v1 l), nI (2 + 4 * i), rfl, ?_, jm_ag.wi rfl⟩
    rw [jm_w_s]
    exact rS_put hs (u := 1) (i := i) (by omega) _
  · rw [jm_ct h3, if_neg h3, show nI (2 + 4 * i) + 1 = nI (2 + 4 * i + 1) from nI_add _ 1, jm_in_nI (show 2 + 4 * i + 1 < 26 by omega) (by decide), cond_true, jm_cl (show 2 + 4 * i + 1 < 2 ^ 31 by omega), Int32.add_comm]
    refine ⟨jm_wi σ 25 2 (2 + 4 * i + 1) (v0 l), nI (2 + 4 * i), rfl, ?_, jm_ag.wi rfl⟩
    rw [jm_w_s]
    exact rS_put hs (u := 0) (i := i) (by omega) _
theorem r_dwS (σ : jm_S) (x1 x2 x3 a b x9 y : Int32) (l : Int64) (o10 : Option jm_V) (k : Nat) (o : Option Nat) (hy : y = nI (o.getD 0)) (h19 : σ.1 21 0 19 = bI o.isNone) : jm_ev 59 (jM_drawn, 174, [some (jm_R 21 0), some (jm_I x1), some (jm_I x2), some (jm_I x3), some (jm_L l), none, some (jm_I a), some (jm_I b), some (jm_I (nI k)), some (jm_I x9), o10], [jm_I y], σ) = jm_ev 59 (jM_drawn, 69, [some (jm_R 21 0), some (jm_I x1), some (jm_I x2), some (jm_I x3), some (jm_L l), none, some (jm_I (dwA o a)), some (jm_I (dwB o b)), some (jm_I (nI (k + 1))), some (jm_I x9), some (jm_I y)], [], σ) := by
  rw [gM_drawn_174, gM_drawn_191, gM_drawn_191, gM_drawn_208, gM_drawn_208, gM_drawn_208, gM_drawn_208, nI_1 k, h19, hy]
  cases o with
  | none =>
    rw [jm_cf (show ¬ bI (none : Option Nat).isNone = 0 by decide), jm_cf (show ¬ bI (none : Option Nat).isNone = 0 by decide), Int32.add_zero]
    rfl
  | some c =>
    rw [jm_ct (show bI (some c).isNone = 0 from rfl), jm_ct (show bI (some c).isNone = 0 from rfl), Int32.add_zero]
    rfl
theorem r_dwL (σ0 : jm_S) {N : Nat} (hN : N ≤ 40) (x2 z : Int32) : ∀ (f k : Nat) (l : Int64) (a b : Int32) (T : sS) (o9 o10 : Option jm_V) (σ : jm_S), k + f = N → 0 ≤ l.toInt → l.toInt < 2147483648 → 1 ≤ T.1 → okK T → rS (σ.1 25 2) T → jm_ag Crs σ0 σ → f19 σ0 σ → ∃ σ', jm_ev 59 (jM_drawn, 69, [some (jm_R 21 0), some (jm_I (nI N)), some (jm_I x2), some (jm_I z), some (jm_L l), none, some (jm_I a), some (jm_I b), some (jm_I (nI k)), o9, o10], [], σ) = some (some (jm_I (dV z (it dst f (l, a, b, T)))), σ') ∧ jm_ag Crs σ0 σ' ∧ f19 σ0 σ' := by
  intro f
  induction f with
  | zero =>
    intro k l a b T o9 o10 σ h h0 h1 hn hK hs ha hf
    have : k = N := by omega
    subst this
    refine ⟨σ, ?_, ha, hf⟩
    rw [gM_drawn_69, jm_ct (nI_le (Nat.le_refl _) (by omega)), gM_drawn_228, gM_drawn_228]
    unfold dV
    by_cases hz : z = 0
    · rw [jm_cf (fun h9 => h9 hz), if_pos hz]; rfl
    · rw [jm_ct hz, if_neg hz]; rfl
  | succ f ih =>
    intro k l a b T o9 o10 σ h h0 h1 hn hK hs ha hf
    obtain ⟨n0, n1⟩ := nx_ok h0 h1
    obtain ⟨σ1, x9, e1, e2, e3⟩ := r_dO σ hs hn hK.1 n0 (nI N) x2 z a b (nI k) o9 o10
    have hK1 : okK (dT T (nx l)) := dT_K hK _
    have hn1 : 1 ≤ (dT T (nx l)).1 := by rw [dT_1]; exact hn
    obtain ⟨σ2, g1, g2, g3, g4⟩ := r_belowOf 54 σ1 2 hK1 e2 (dT T (nx l)).2.1
    have hag : jm_ag Crs σ0 σ2 := (ha.tr (Cl2_rs e3)).tr (C28_rs g4)
    have hf2 : f19 σ0 σ2 := fun j hj => by
      rw [g3 j hj, (e3 21 0 rfl).1]
      exact hf j hj
    have hs2 : rS (σ2.1 25 2) (dT T (nx l)) := by rw [(g4 25 2 rfl).1]; exact e2
    rw [it_s, dst_e]
    rw [gM_drawn_69, jm_cf (nI_ge (show k < N by omega) (by omega)), ← nx_d l, e1, gM_drawn_160, e2.2.1, g1, Option.bind_some, jm_ps, r_dwS σ2 _ _ _ _ _ _ _ _ _ k _ rfl g2]
    exact ih (k + 1) (nx l) _ _ (dT T (nx l)) _ _ σ2 (by omega) n0 n1 hn1 hK1 hs2 hag hf2
theorem r_inS (e : Nat) (σ : jm_S) (x : Int32) : jm_call (e + 1) jM_in [jm_L x.toInt64, jm_L 1, jm_L 999999] σ = some (some (jm_I (if 1 ≤ x.toInt ∧ x.toInt ≤ 999999 then 1 else 0)), σ) := by
  rw [r_in]
  simp only [jm_i64, show (1 : Int64).toInt = 1 from rfl, show (999999 : Int64).toInt = 999999 from rfl]
theorem P_drawn {A : aS} (hA : okA A) (x y z : Int32) : Pair A jD_drawn jM_drawn [jm_I x, jm_I y, jm_I z] := by
  have h6 := hA.2.2.1.1
  have go : ∀ v, (∀ σ, cRel σ A → jm_call 60 jD_drawn [jm_R 0 0, jm_I x, jm_I y, jm_I z] σ = some (some (jm_I v), σ)) → (∀ σ, rRel σ A → jm_call 60 jM_drawn [jm_R 21 0, jm_I x, jm_I y, jm_I z] σ = some (some (jm_I v), jm_wi σ 21 0 0 0)) → Pair A jD_drawn jM_drawn [jm_I x, jm_I y, jm_I z] := fun v h1 h2 => ⟨jm_I v, A, hA, fun σ hc => ⟨σ, h1 σ hc, hc, jm_ag.rf⟩, fun σ hr => ⟨jm_wi σ 21 0 0 0, h2 σ hr, hr.th 0, jm_ag.wi rfl⟩⟩
  have z0 : (0 : Int32).toInt = 0 := rfl
  have z1 : (1 : Int32).toInt = 1 := rfl
  have z40 : (40 : Int32).toInt = 40 := rfl
  have z9 : (999999 : Int32).toInt = 999999 := rfl
  by_cases h0 : (aSh A).1 = 0
  · refine go (-1000002) (fun σ hc => ?_) (fun σ hr => ?_)
    · rw [gD_drawn_0, hc.2.2.1.1, h0, jm_cf (fun h9 => h9 rfl)]
    · rw [gM_drawn_0, r_isThere 58 _ (hr.th 0).2.2.1.1 h6, if_pos h0, Option.bind_some, jm_ps, gM_drawn_9, jm_cf (fun h9 => h9 rfl)]
  have hne : ¬ nI (aSh A).1 = 0 := nI_ne0 (by omega) (by omega)
  by_cases hx : 0 ≤ x.toInt ∧ x.toInt ≤ (40 : Nat)
  case neg =>
    refine go (-1000001) (fun σ hc => ?_) (fun σ hr => ?_)
    · rw [gD_drawn_0, hc.2.2.1.1, jm_ct hne, gD_drawn_43]
      by_cases a : x < 0
      · rw [jm_ct a]
      · rw [jm_cf a, jm_ct]
        rw [jm_ti32] at a ⊢
        omega
    · rw [gM_drawn_0, r_isThere 58 _ (hr.th 0).2.2.1.1 h6, if_neg h0, Option.bind_some, jm_ps, gM_drawn_9, jm_ct (by decide), r_inK 58 _ _ 40 (n := 40) rfl, if_neg hx, Option.bind_some, jm_ps, gM_drawn_24, jm_ct rfl, gM_drawn_49]
  have hx0 : ¬ x < 0 := by rw [jm_ti32]; omega
  have hx4 : ¬ (40 : Int32) < x := by rw [jm_ti32]; omega
  by_cases hy : 1 ≤ y.toInt ∧ y.toInt ≤ 999999
  case neg =>
    refine go (-1000001) (fun σ hc => ?_) (fun σ hr => ?_)
    · rw [gD_drawn_0, hc.2.2.1.1, jm_ct hne, jm_cf hx0, jm_cf hx4, gD_drawn_43]
      by_cases a : y < 1
      · rw [jm_ct a]
      · rw [jm_cf a, jm_ct]
        rw [jm_ti32] at a ⊢
        omega
    · rw [gM_drawn_0, r_isThere 58 _ (hr.th 0).2.2.1.1 h6, if_neg h0, Option.bind_some, jm_ps, gM_drawn_9, jm_ct (by decide), r_inK 58 _ _ 40 (n := 40) rfl, if_pos hx, Option.bind_some, jm_ps, gM_drawn_24, jm_cf (by decide), r_inS 58, if_neg hy, Option.bind_some, jm_ps, gM_drawn_36, jm_ct rfl, gM_drawn_49]
  have hy1 : ¬ y < 1 := by rw [jm_ti32]; omega
  have hy9 : ¬ (999999 : Int32) < y := by rw [jm_ti32]; omega
  by_cases hz : 0 ≤ z.toInt ∧ z.toInt ≤ (1 : Nat)
  case neg =>
    refine go (-1000001) (fun σ hc => ?_) (fun σ hr => ?_)
    · rw [gD_drawn_0, hc.2.2.1.1, jm_ct hne, jm_cf hx0, jm_cf hx4, jm_cf hy1, jm_cf hy9, gD_drawn_43]
      by_cases a : z < 0
      · rw [jm_ct a]
      · rw [jm_cf a, jm_cf]
        rw [jm_ti32] at a
        rw [jm_te32]
        omega
    · rw [gM_drawn_0, r_isThere 58 _ (hr.th 0).2.2.1.1 h6, if_neg h0, Option.bind_some, jm_ps, gM_drawn_9, jm_ct (by decide), r_inK 58 _ _ 40 (n := 40) rfl, if_pos hx, Option.bind_some, jm_ps, gM_drawn_24, jm_cf (by decide), r_inS 58, if_pos hy, Option.bind_some, jm_ps, gM_drawn_36, jm_cf (by decide), r_inK 58 _ _ 1 (n := 1) rfl, if_neg hz, Option.bind_some, jm_ps, gM_drawn_46, jm_cf (fun h9 => h9 rfl), gM_drawn_49]
  have hz0 : ¬ z < 0 := by rw [jm_ti32]; omega
  have hz1 : z ≤ 1 := by rw [jm_te32]; omega
  obtain ⟨N, hN, rfl⟩ := jm_nI_of (x := x) (n := 41) hx.1 (by omega)
  have y0 : 0 ≤ y.toInt64.toInt := by rw [jm_i64]; omega
  have y1 : y.toInt64.toInt < 2147483648 := by rw [jm_i64]; omega
  refine ⟨jm_I (dV z (it dst N (y.toInt64, 0, 0, aSh A))), A, hA, fun σ hc => ?_, fun σ hr => ?_⟩
  · obtain ⟨σ1, e1, e2, e3⟩ := c_takeFrom 58 σ (r0 := 1) (r1 := 0) (by omega) h6 hc.2.2.1
    have m1 : jm_ag Csc σ σ1 := e2.mo (fun g r h8 => by
      simp only [Csc, Bool.or_eq_false_iff] at h8
      simp only [Ctf, Bool.or_eq_false_iff]
      exact ⟨h8.1.2, h8.2⟩)
    obtain ⟨σ', g1, g2⟩ := c_dwL σ (N := N) (by omega) y z N 0 y.toInt64 0 0 (aSh A) none σ1 (by omega) y0 y1 (by omega) h6 e3 m1
    refine ⟨σ', ?_, hc.sc g2, Csc_cl g2⟩
    rw [gD_drawn_0, hc.2.2.1.1, jm_ct hne, jm_cf hx0, jm_cf hx4, jm_cf hy1, jm_cf hy9, jm_cf hz0, jm_ct hz1, e1, Option.bind_some, jm_pn, gD_drawn_57]
    exact g1
  · have hr' := hr.th 0
    obtain ⟨σ1, e1, e2, e3⟩ := r_layThen 58 _ h6 hr'.2.2.1
    obtain ⟨σ', g1, g2, g3⟩ := r_dwL (jm_wi σ 21 0 0 0) (N := N) (by omega) y z N 0 y.toInt64 0 0 (aSh A) none none σ1 (by omega) y0 y1 (by omega) hA.2.2.1.K e3 (Cl2_rs e2) (fun j _ => by rw [(e2 21 0 rfl).1])
    refine ⟨σ', ?_, hr'.sc g2 g3.live, (jm_ag.wi rfl).tr (Crs_rf g2)⟩
    rw [gM_drawn_0, r_isThere 58 _ hr'.2.2.1.1 h6, if_neg h0, Option.bind_some, jm_ps, gM_drawn_9, jm_ct (by decide), r_inK 58 _ _ 40 (n := 40) rfl, if_pos hx, Option.bind_some, jm_ps, gM_drawn_24, jm_cf (by decide), r_inS 58, if_pos hy, Option.bind_some, jm_ps, gM_drawn_36, jm_cf (by decide), r_inK 58 _ _ 1 (n := 1) rfl, if_pos hz, Option.bind_some, jm_ps, gM_drawn_46, jm_ct (by decide), e1, Option.bind_some, jm_pn, gM_drawn_56]
    exact g1
