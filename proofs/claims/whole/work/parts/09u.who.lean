-- METHODS: who
theorem bxm_cg {B : Int32 → Option Nat} {g g' : Nat → Int32} : ∀ m, (∀ k, k < m → g k = g' k) → bxm B g m = bxm B g' m
  | 0, _ => rfl
  | m + 1, h => by rw [bxm_s, bxm_s, bxm_cg m (fun k hk => h k (by omega)), h m (by omega)]
def wa (F : Nat → Bool) (lo : Nat) : Nat → Int32 × Nat × Int32
  | 0 => (0, 0, -1000000)
  | j + 1 => if F (lo + j) then ((wa F lo j).1 ||| (1 <<< (nI (lo + j) &&& 31)), (wa F lo j).2.1 + 1, if (wa F lo j).2.1 = 0 then nI (lo + j) else (wa F lo j).2.2) else wa F lo j
theorem wa_s (F : Nat → Bool) (lo j : Nat) : wa F lo (j + 1) = if F (lo + j) then ((wa F lo j).1 ||| (1 <<< (nI (lo + j) &&& 31)), (wa F lo j).2.1 + 1, if (wa F lo j).2.1 = 0 then nI (lo + j) else (wa F lo j).2.2) else wa F lo j := rfl
theorem wa_0 (F : Nat → Bool) (lo : Nat) : ∀ j, (wa F lo j).2.1 ≤ j ∧ ((wa F lo j).2.1 = 0 → (wa F lo j).2.2 = -1000000)
  | 0 => ⟨Nat.le_refl _, fun _ => rfl⟩
  | j + 1 => by
    have ih := wa_0 F lo j
    rw [wa_s]
    by_cases h : F (lo + j) = true
    · rw [if_pos h]
      exact ⟨by show (wa F lo j).2.1 + 1 ≤ j + 1; omega, fun h9 => absurd h9 (Nat.succ_ne_zero _)⟩
    · rw [if_neg h]
      exact ⟨by omega, ih.2⟩
theorem wa_fst (F : Nat → Bool) (lo : Nat) {j : Nat} (hj : (wa F lo j).2.1 ≠ 0) : ∀ d, (wa F lo (j + d)).2.1 ≠ 0 ∧ (wa F lo (j + d)).2.2 = (wa F lo j).2.2
  | 0 => ⟨hj, rfl⟩
  | d + 1 => by
    obtain ⟨a, b⟩ := wa_fst F lo hj d
    rw [show j + (d + 1) = (j + d) + 1 by omega, wa_s]
    by_cases h : F (lo + (j + d)) = true
    · rw [if_pos h]
      exact ⟨Nat.succ_ne_zero _, by show (if (wa F lo (j + d)).2.1 = 0 then _ else _) = _; rw [if_neg a]; exact b⟩
    · rw [if_neg h]; exact ⟨a, b⟩
/-- the tried shaft is the shaft, but at one number -/
def Tr (σ : jm_S) (S : sS) (u i : Nat) : Prop := σ.1 7 1 1 = nI S.1 ∧ σ.1 7 1 2 = S.2.1 ∧ ∀ w, w < 4 → ∀ d, d < S.1 → ¬ (w = u ∧ d = i) → σ.1 9 (4 * 1 + w) d = S.2.2 w d
theorem Tr.wr {σ : jm_S} {S : sS} {u i : Nat} (h : Tr σ S u i) (v : Int32) : cS (jm_wi σ 9 (4 + u) i v) 1 (sPut S u i v) := by
  refine ⟨h.1, h.2.1, fun w hw d hd => ?_⟩
  show (jm_wi σ 9 (4 + u) i v).1 9 (4 + w) d = if w = u ∧ d = i then v else S.2.2 w d
  by_cases h9 : w = u ∧ d = i
  · rw [if_pos h9, h9.1, h9.2, jm_w_s, pk_us]
  · rw [if_neg h9]
    by_cases hw1 : w = u
    · subst hw1
      rw [jm_w_s, pk_un (fun h8 => h9 ⟨rfl, h8⟩)]
      exact h.2.2 w hw d hd h9
    · rw [jm_w_n _ _ _ (fun h8 => hw1 (by omega))]
      exact h.2.2 w hw d hd h9
theorem Tr.of {σ σ' : jm_S} {S : sS} {u i : Nat} {v : Int32} (h : cS σ 1 (sPut S u i v)) (ha : jm_ag C1418 σ σ') : Tr σ' S u i := by
  refine ⟨by rw [(ha 7 1 rfl).1]; exact h.1, by rw [(ha 7 1 rfl).1]; exact h.2.1, fun w hw d hd h9 => ?_⟩
  rw [(ha 9 _ rfl).1, h.2.2 w hw d hd]
  exact if_neg h9
def wF (S : sS) (u i m : Nat) (g : Nat → Int32) (v : Nat) : Bool := bxm (BS (sPut S u i (nI v))) g m
theorem sc9 {u : Nat} (hu : u < 4) : Csc 9 (4 + u) = true := by
  rcases (show u = 0 ∨ u = 1 ∨ u = 2 ∨ u = 3 by omega) with rfl | rfl | rfl | rfl <;> rfl
theorem c_btL (σ0 : jm_S) {S : sS} {u i r a m : Nat} {g : Nat → Int32} (h6 : S.1 ≤ 6) (hu : u = 0 ∨ u = 3) (hi : i < S.1) (hr : r < 8) (ham : a + m ≤ 40) (hm6 : m ≤ 6) (hg : ∀ k, k < m → σ0.1 4 r (a + k) = g k) : ∀ (f j : Nat) (σ : jm_S), j + f = 5 → jm_ag Csc σ0 σ → Tr σ S u i → ∃ σ', jm_ev 58 (jD_bitsThatFit, 21, [some (jm_R 0 0), some (jm_I (nI i)), some (jm_I (nI u)), some (jm_I (nI r)), some (jm_I (nI a)), some (jm_I (nI m)), some (jm_I (wa (wF S u i m g) 1 j).1), some (jm_I (nI (1 + j)))], [], σ) = some (some (jm_I (wa (wF S u i m g) 1 5).1), σ') ∧ jm_ag Csc σ0 σ'
  | 0, j, σ, h, ha, hT => by
    have : j = 5 := by omega
    subst this
    have hu4 : u < 4 := by omega
    have t1 : (jm_tb 41).getD u 0 = 5 := by rcases hu with rfl | rfl <;> rfl
    refine ⟨σ, ?_, ha⟩
    rw [gD_bitsThatFit_21, jm_in_nI hu4 (by decide), cond_true, jm_cl (by omega), t1, jm_ct (show (5 : Int32) < nI (1 + 5) by decide)]
  | f + 1, j, σ, h, ha, hT => by
    have hu4 : u < 4 := by omega
    have t1 : (jm_tb 41).getD u 0 = 5 := by rcases hu with rfl | rfl <;> rfl
    obtain ⟨σ1, e1, e2⟩ := c_tba 53 (jm_wi σ 9 (4 + u) i (nI (1 + j))) (T := sPut S u i (nI (1 + j))) h6 (hT.wr _) hr ham hm6
    have hag : jm_ag Csc σ0 σ1 := (ha.tr (jm_ag.wi (sc9 hu4))).tr (C1418_sc e2)
    have hgg : bxm (BS (sPut S u i (nI (1 + j)))) (fun k => (jm_wi σ 9 (4 + u) i (nI (1 + j))).1 4 r (a + k)) m = wF S u i m g (1 + j) := bxm_cg m (fun k hk => by
      show σ.1 4 r (a + k) = g k
      rw [(ha 4 r rfl).1]; exact hg k hk)
    rw [hgg] at e1
    obtain ⟨σ', g1, g2⟩ := c_btL σ0 h6 hu hi hr ham hm6 hg f (j + 1) σ1 (by omega) hag (Tr.of (hT.wr _) e2)
    refine ⟨σ', ?_, g2⟩
    rw [gD_bitsThatFit_21, jm_in_nI hu4 (by decide), cond_true, cond_true, jm_cl (by omega), t1, jm_cf (show ¬ (5 : Int32) < nI (1 + j) from nI_nlt (a := 5) (by omega) (by omega)), jm_in_nI (show i < 6 by omega) (by decide), cond_true, jm_cl (by omega), e1, Option.bind_some, jm_ps, gD_bitsThatFit_53, gD_bitsThatFit_65, gD_bitsThatFit_65, nI_1, show 1 + j + 1 = 1 + (j + 1) by omega]
    rw [wa_s] at g1
    cases hF : wF S u i m g (1 + j) with
    | false => rw [hF, if_neg (by decide)] at g1; rw [jm_ct (show bI false = 0 from rfl)]; exact g1
    | true => rw [hF, if_pos rfl] at g1; rw [jm_cf (show ¬ bI true = 0 by decide)]; exact g1
theorem c_spL (σ0 : jm_S) {S : sS} {md i r a m : Nat} {g : Nat → Int32} (h6 : S.1 ≤ 6) (hmd : md < 2) (hi : i < S.1) (hr : r < 8) (ham : a + m ≤ 40) (hm6 : m ≤ 6) (hg : ∀ k, k < m → σ0.1 4 r (a + k) = g k) : ∀ (f j : Nat) (σ : jm_S), j + f = 41 → jm_ag Csc σ0 σ → Tr σ S 1 i → (md = 1 → (wa (wF S 1 i m g) 0 j).2.1 = 0) → ∃ σ', jm_ev 58 (jD_springsThatFit, 21, [some (jm_R 0 0), some (jm_I (nI i)), some (jm_I (nI md)), some (jm_I (nI r)), some (jm_I (nI a)), some (jm_I (nI m)), some (jm_I (nI (wa (wF S 1 i m g) 0 j).2.1)), some (jm_I (nI (0 + j)))], [], σ) = some (some (jm_I (if md = 0 then nI (wa (wF S 1 i m g) 0 41).2.1 else (wa (wF S 1 i m g) 0 41).2.2)), σ') ∧ jm_ag Csc σ0 σ'
  | 0, j, σ, h, ha, hT, hz => by
    have : j = 41 := by omega
    subst this
    refine ⟨σ, ?_, ha⟩
    rw [gD_springsThatFit_21, jm_ct (show (jm_tb 41).getD 1 0 < nI (0 + 41) by decide), gD_springsThatFit_83, gD_springsThatFit_83]
    rcases (show md = 0 ∨ md = 1 by omega) with rfl | rfl
    · rw [jm_ct (show nI 0 = 0 from rfl), if_pos rfl]
    · rw [jm_cf (show ¬ nI 1 = 0 by decide), if_neg (by decide), (wa_0 (wF S 1 i m g) 0 41).2 (hz rfl)]
  | f + 1, j, σ, h, ha, hT, hz => by
    obtain ⟨σ1, e1, e2⟩ := c_tba 53 (jm_wi σ 9 (4 + 1) i (nI (0 + j))) (T := sPut S 1 i (nI (0 + j))) h6 (hT.wr _) hr ham hm6
    have hag : jm_ag Csc σ0 σ1 := (ha.tr (jm_ag.wi (sc9 (by omega)))).tr (C1418_sc e2)
    have hgg : bxm (BS (sPut S 1 i (nI (0 + j)))) (fun k => (jm_wi σ 9 (4 + 1) i (nI (0 + j))).1 4 r (a + k)) m = wF S 1 i m g (0 + j) := bxm_cg m (fun k hk => by
      show σ.1 4 r (a + k) = g k
      rw [(ha 4 r rfl).1]; exact hg k hk)
    rw [hgg] at e1
    have e1' : jm_call 58 jD_triedBoxesAre [jm_R 0 0, jm_I (nI r), jm_I (nI a), jm_I (nI m)] (jm_wi σ 9 5 i (nI (0 + j))) = _ := e1
    have hst : jm_ev 58 (jD_springsThatFit, 21, [some (jm_R 0 0), some (jm_I (nI i)), some (jm_I (nI md)), some (jm_I (nI r)), some (jm_I (nI a)), some (jm_I (nI m)), some (jm_I (nI (wa (wF S 1 i m g) 0 j).2.1)), some (jm_I (nI (0 + j)))], [], σ) = jm_ev 58 (jD_springsThatFit, 53, [some (jm_R 0 0), some (jm_I (nI i)), some (jm_I (nI md)), some (jm_I (nI r)), some (jm_I (nI a)), some (jm_I (nI m)), some (jm_I (nI (wa (wF S 1 i m g) 0 j).2.1)), some (jm_I (nI (0 + j)))], [jm_I (bI (wF S 1 i m g (0 + j)))], σ1) := by
      rw [gD_springsThatFit_21, jm_cf (show ¬ (jm_tb 41).getD 1 0 < nI (0 + j) from nI_nlt (a := 40) (by omega) (by omega)), jm_in_nI (show i < 6 by omega) (by decide), cond_true, jm_cl (by omega), e1', Option.bind_some, jm_ps]
    rw [hst, gD_springsThatFit_53, gD_springsThatFit_66, gD_springsThatFit_66, nI_1, nI_1, show 0 + j + 1 = 0 + (j + 1) by omega]
    cases hF : wF S 1 i m g (0 + j) with
    | false =>
      have hw : wa (wF S 1 i m g) 0 (j + 1) = wa (wF S 1 i m g) 0 j := by rw [wa_s, hF, if_neg (by decide)]
      obtain ⟨σ', g1, g2⟩ := c_spL σ0 h6 hmd hi hr ham hm6 hg f (j + 1) σ1 (by omega) hag (Tr.of (hT.wr _) e2) (fun h9 => by rw [hw]; exact hz h9)
      rw [hw] at g1
      refine ⟨σ', ?_, g2⟩
      rw [jm_ct (show bI false = 0 from rfl)]
      exact g1
    | true =>
      have hw : (wa (wF S 1 i m g) 0 (j + 1)).2.1 = (wa (wF S 1 i m g) 0 j).2.1 + 1 := by rw [wa_s, hF, if_pos rfl]
      rw [jm_cf (show ¬ bI true = 0 by decide)]
      rcases (show md = 0 ∨ md = 1 by omega) with rfl | rfl
      · obtain ⟨σ', g1, g2⟩ := c_spL σ0 h6 hmd hi hr ham hm6 hg f (j + 1) σ1 (by omega) hag (Tr.of (hT.wr _) e2) (fun h9 => by omega)
        rw [hw] at g1
        refine ⟨σ', ?_, g2⟩
        rw [jm_ct (show nI 0 = 0 from rfl)]
        exact g1
      · refine ⟨σ1, ?_, hag⟩
        have h1 : (wa (wF S 1 i m g) 0 (j + 1)).2.1 ≠ 0 := by rw [hw]; exact Nat.succ_ne_zero _
        have h2 := (wa_fst (wF S 1 i m g) 0 h1 f).2
        rw [show j + 1 + f = 41 by omega] at h2
        rw [jm_cf (show ¬ nI 1 = 0 by decide), if_neg (by decide), h2, wa_s, hF, if_pos rfl]
        show _ = some (some (jm_I (if (wa (wF S 1 i m g) 0 j).2.1 = 0 then nI (0 + j) else _)), σ1)
        rw [if_pos (hz rfl)]
