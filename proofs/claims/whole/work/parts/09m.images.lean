-- METHODS: image, restore, as
abbrev Ctf (r0 : Nat) : Nat → Nat → Bool := fun k r => (k == 7 && r == r0) || (k == 9 && (Nat.ble (4 * r0) r && Nat.blt r (4 * r0 + 4)))
theorem Ctf_t (r0 : Nat) {w : Nat} (hw : w < 4) : Ctf r0 9 (4 * r0 + w) = true := by
  have a : Nat.ble (4 * r0) (4 * r0 + w) = true := Nat.ble_eq_true_of_le (by omega)
  have b : Nat.blt (4 * r0 + w) (4 * r0 + 4) = true := Nat.ble_eq_true_of_le (by omega)
  simp only [Ctf, a, b]
  rfl
theorem Ctf_f {r0 r1 : Nat} (h : r1 ≠ r0) {w : Nat} (hw : w < 4) : Ctf r0 9 (4 * r1 + w) = false := by
  have : (Nat.ble (4 * r0) (4 * r1 + w) && Nat.blt (4 * r1 + w) (4 * r0 + 4)) = false := by
    cases ha : Nat.ble (4 * r0) (4 * r1 + w) with
    | false => rfl
    | true =>
      cases hb : Nat.blt (4 * r1 + w) (4 * r0 + 4) with
      | false => rfl
      | true =>
        have h1 := Nat.le_of_ble_eq_true ha
        have h2 := Nat.le_of_ble_eq_true hb
        omega
  simp only [Ctf, this]
  rfl
theorem Ctf_7t (r0 : Nat) : Ctf r0 7 r0 = true := by simp [Ctf]
theorem Ctf_7f {r0 r1 : Nat} (h : r1 ≠ r0) : Ctf r0 7 r1 = false := by simp [Ctf, h]
theorem c_tfL (e : Nat) (σ0 : jm_S) {r0 r1 : Nat} (h01 : r1 ≠ r0) : ∀ (f k : Nat) (σ : jm_S), k + f = 4 → jm_ag (Ctf r0) σ0 σ → (∀ w, w < k → ∀ d, d < 6 → σ.1 9 (4 * r0 + w) d = σ0.1 9 (4 * r1 + w) d) → ∃ σ', jm_ev e (jS_takeFrom, 2, [some (jm_R 7 r0), some (jm_R 7 r1), some (jm_I (nI k))], [], σ) = some (none, σ') ∧ jm_ag (Ctf r0) σ0 σ' ∧ (∀ w, w < 4 → ∀ d, d < 6 → σ'.1 9 (4 * r0 + w) d = σ0.1 9 (4 * r1 + w) d) ∧ σ'.1 7 r0 1 = σ0.1 7 r1 1 ∧ σ'.1 7 r0 2 = σ0.1 7 r1 2
  | 0, k, σ, h, ha, h1 => by
    have : k = 4 := by omega
    subst this
    refine ⟨jm_wi (jm_wi σ 7 r0 1 (σ.1 7 r1 1)) 7 r0 2 ((jm_wi σ 7 r0 1 (σ.1 7 r1 1)).1 7 r1 2), ?_, ha.tr ((jm_ag.wi (Ctf_7t r0)).tr (jm_ag.wi (Ctf_7t r0))), fun w hw d hd => h1 w hw d hd, ?_, ?_⟩
    · rw [gS_takeFrom_2, jm_ct (show (4 : Int32) ≤ nI 4 by decide)]
    · rw [jm_w_s, pk_un (by decide), jm_w_s, pk_us, (ha 7 r1 (Ctf_7f h01)).1]
    · rw [jm_w_s, pk_us, jm_w_n _ _ _ (fun h9 => h01 h9.2), (ha 7 r1 (Ctf_7f h01)).1]
  | f + 1, k, σ, h, ha, h1 => by
    obtain ⟨σ', e1, e2⟩ := c_tfL e σ0 h01 f (k + 1) (jm_wc σ 9 (4 * r0 + k) 9 (4 * r1 + k) 0 0 6) (by omega) (ha.tr (jm_ag.wc (Ctf_t r0 (by omega)))) (fun w hw d hd => by
      rw [jm_wc1]
      by_cases hk : w = k
      · subst hk
        rw [if_pos ⟨rfl, rfl⟩]
        unfold va_cpy
        rw [if_pos (by omega), show 0 + (d - 0) = d by omega, (ha 9 _ (Ctf_f h01 (by omega))).1]
      · rw [if_neg (fun h9 => hk (by omega))]
        exact h1 w (by omega) d hd)
    refine ⟨σ', ?_, e2⟩
    rw [gS_takeFrom_2, jm_cf (show ¬ (4 : Int32) ≤ nI k from nI_ge (b := 4) (by omega) (by decide)), jm_in_nI (show k < 4 by omega) (by decide), cond_true, cond_true, jm_cl (by omega), nI_1]
    exact e1
theorem c_takeFrom (e : Nat) (σ : jm_S) {r0 r1 : Nat} (h01 : r1 ≠ r0) {S : sS} (h6 : S.1 ≤ 6) (hs : cS σ r1 S) : ∃ σ', jm_call (e + 1) jS_takeFrom [jm_R 7 r0, jm_R 7 r1] σ = some (none, σ') ∧ jm_ag (Ctf r0) σ σ' ∧ cS σ' r0 S := by
  obtain ⟨σ', e1, e2, e3, e4, e5⟩ := c_tfL e σ h01 4 0 σ rfl jm_ag.rf (fun w hw => by omega)
  refine ⟨σ', by rw [gS_takeFrom_0]; exact e1, e2, e4.trans hs.1, e5.trans hs.2.1, fun w hw d hd => ?_⟩
  rw [e3 w hw d (by omega)]
  exact hs.2.2 w hw d hd
abbrev aImW (A : aS) (f : Nat → Option sS) : aS := (A.1, A.2.1, A.2.2.1, A.2.2.2.1, f, A.2.2.2.2.2)
theorem c_isImage (e : Nat) (σ : jm_S) (x : Int32) : jm_call (e + 1) jD_isImage [jm_I x] σ = some (some (jm_I (if 0 ≤ x.toInt ∧ x.toInt ≤ 1 then 1 else 0)), σ) := by
  simp only [gD_isImage_0, gD_isImage_13, gD_isImage_14, Bool.cond_decide, jm_b0, jm_b1, cond_true, jm_ti32, jm_te32]
  simp only [show (0 : Int32).toInt = 0 from rfl, show (2 : Int32).toInt = 2 from rfl]
  split
  · next h => rw [if_neg (by omega)]
  · split
    · next h => rw [if_neg (by omega)]
    · rw [if_pos (by omega)]
theorem c_imageAt (e : Nat) (σ : jm_S) {k : Nat} (hk : k < 2) : jm_call (e + 1) jD_imageAt [jm_R 0 0, jm_I (nI k)] σ = some (some (jm_R 7 (2 + k)), σ) := by
  rw [gD_imageAt_0, gD_imageAt_15, gD_imageAt_15]
  rcases (show k = 0 ∨ k = 1 by omega) with rfl | rfl <;> rfl
theorem cRel.im {σ σ' : jm_S} {A : aS} {k : Nat} (hk : k < 2) {T : sS} (h : cRel σ A) (ha : jm_ag (Ctf (2 + k)) σ σ') (hs : cS σ' (2 + k) T) : cRel σ' (aImW A (fun k' => if k' = k then some T else aIm A k')) := by
  obtain ⟨h1, h2, h3, h4, h5, h6, h7, h8⟩ := h
  have e4 : σ'.1 4 = σ.1 4 := funext fun r => (ha 4 r rfl).1
  have e0 : ∀ g r, g ≠ 7 → g ≠ 9 → σ'.1 g r = σ.1 g r := fun g r a b => (ha g r (by simp [Ctf, a, b])).1
  refine ⟨?_, ?_, cS_ag h3 ha (Ctf_7f (by omega)) (fun w hw => Ctf_f (by omega) hw), ?_, ?_, ?_, ?_, ?_⟩
  · rw [e0 1 0 (by decide) (by decide), e0 2 0 (by decide) (by decide), e4]; exact h1
  · rw [e0 5 0 (by decide) (by decide), e0 6 0 (by decide) (by decide)]; exact h2
  · rw [e0 10 0 (by decide) (by decide), e0 11 0 (by decide) (by decide), e0 12 0 (by decide) (by decide), e0 13 0 (by decide) (by decide)]; exact h4
  · intro k' hk'
    show (match (if k' = k then some T else aIm A k') with | none => σ'.1 7 (2 + k') 1 = 0 | some T => cS σ' (2 + k') T)
    by_cases hkk : k' = k
    · rw [if_pos hkk, hkk]; exact hs
    · rw [if_neg hkk]
      have h9 := h5 k' hk'
      cases hi : aIm A k' with
      | none => rw [hi] at h9; show σ'.1 7 (2 + k') 1 = 0; rw [(ha 7 _ (Ctf_7f (by omega))).1]; exact h9
      | some T' => rw [hi] at h9; exact cS_ag h9 ha (Ctf_7f (by omega)) (fun w hw => Ctf_f (by omega) hw)
  · rw [e0 0 0 (by decide) (by decide), e0 20 0 (by decide) (by decide)]; exact h6
  · rw [e0 0 0 (by decide) (by decide)]; exact h7
  · rw [e0 0 0 (by decide) (by decide)]; exact h8
theorem Ctf_cl {r0 : Nat} {σ σ' : jm_S} (h : jm_ag (Ctf r0) σ σ') : jm_ag Ccl σ σ' := h.mo (fun k r h9 => by
  have hk : 21 ≤ k := by
    cases hb : Nat.blt k 21 with
    | true => simp only [Ccl, hb] at h9; cases h9
    | false => exact Nat.le_of_not_lt fun q => by rw [show Nat.blt k 21 = true from Nat.ble_eq_true_of_le q] at hb; cases hb
  have : k ≠ 7 ∧ k ≠ 9 := by omega
  simp [Ctf, this])
abbrev C30 : Nat → Nat → Bool := fun k _ => k == 30 || k == 31
theorem C30_rf {σ σ' : jm_S} (h : jm_ag C30 σ σ') : jm_ag Crf σ σ' := h.mo (fun k r h9 => by
  have hk : k < 21 := by
    cases hb : Nat.ble 21 k with
    | true => simp only [Crf, hb] at h9; cases h9
    | false => exact Nat.lt_of_not_le fun q => by rw [Nat.ble_eq_true_of_le q] at hb; cases hb
  have : k ≠ 30 ∧ k ≠ 31 := by omega
  simp [C30, this])
theorem r_imL (σ0 : jm_S) {m : Nat} (hm : m < 2) : ∀ (f k : Nat) (σ : jm_S), k + f = 26 → jm_ag C30 σ0 σ → σ.1 30 = σ0.1 30 → (∀ j, (j < 26 * m ∨ 26 * m + 26 ≤ j) → σ.1 31 0 j = σ0.1 31 0 j) → (∀ j, j < k → σ.1 31 0 (26 * m + j) = σ0.1 25 0 j) → ∃ σ', jm_ev 59 (jM_image, 30, [some (jm_R 21 0), some (jm_I (nI m)), some (jm_I (nI k))], [], σ) = some (some (jm_I 1), jm_wi σ' 30 0 m 1) ∧ jm_ag C30 σ0 σ' ∧ σ'.1 30 = σ0.1 30 ∧ (∀ j, (j < 26 * m ∨ 26 * m + 26 ≤ j) → σ'.1 31 0 j = σ0.1 31 0 j) ∧ (∀ j, j < 26 → σ'.1 31 0 (26 * m + j) = σ0.1 25 0 j)
  | 0, k, σ, h, ha, h0, h1, h2 => by
    have : k = 26 := by omega
    subst this
    exact ⟨σ, by rw [gM_image_30, jm_ct (show (26 : Int32) ≤ nI 26 by decide), jm_in_nI hm (by decide), cond_true, jm_cl (by omega)]; rfl, ha, h0, h1, h2⟩
  | f + 1, k, σ, h, ha, h0, h1, h2 => by
    obtain ⟨σ', e1, e2⟩ := r_imL σ0 hm f (k + 1) (jm_wi σ 31 0 (26 * m + k) (σ.1 25 0 k)) (by omega) (ha.tr (jm_ag.wi rfl)) h0 (fun j hj => by
      rw [jm_w_s, pk_un (by omega)]; exact h1 j hj) (fun j hj => by
      rw [jm_w_s]
      by_cases hk : j = k
      · subst hk; rw [pk_us, (ha 25 0 rfl).1]
      · rw [pk_un (by omega)]; exact h2 j (by omega))
    refine ⟨σ', ?_, e2⟩
    rw [gM_image_30, jm_cf (show ¬ (26 : Int32) ≤ nI k from nI_ge (b := 26) (by omega) (by decide)), jm_in_nI (show k < 26 by omega) (by decide), cond_true, show (26 : Int32) * nI m + nI k = nI (26 * m + k) from by rw [show (26 : Int32) = nI 26 from rfl, pk_mul, nI_add], jm_in_nI (show 26 * m + k < 52 by omega) (by decide), cond_true, jm_cl (by omega), jm_cl (by omega), nI_1, e1]
theorem rRel.im {σ σ' : jm_S} {A : aS} (hA : okA A) {k : Nat} (hk : k < 2) (h : rRel σ A) (ha : jm_ag C30 σ σ') (h30 : σ'.1 30 0 = upd (σ.1 30 0) k 1) (h31 : ∀ j, (j < 26 * k ∨ 26 * k + 26 ≤ j) → σ'.1 31 0 j = σ.1 31 0 j) (hs : ∀ j, j < 26 → σ'.1 31 0 (26 * k + j) = σ.1 25 0 j) : rRel σ' (aImW A (fun k' => if k' = k then some (aSh A) else aIm A k')) := by
  obtain ⟨h1, h2, h3, h4, h5, h6, h7, h8⟩ := h
  refine ⟨?_, ?_, ?_, ?_, ?_, ?_, ?_, ?_⟩
  · rw [(ha 22 0 rfl).1, (ha 23 0 rfl).1, (ha 24 0 rfl).1]; exact h1
  · rw [(ha 21 0 rfl).1, (ha 27 0 rfl).1]; exact h2
  · rw [(ha 25 0 rfl).1]; exact h3
  · rw [(ha 21 0 rfl).1, (ha 26 0 rfl).1]; exact h4
  · intro k' hk'
    show (match (if k' = k then some (aSh A) else aIm A k') with | none => σ'.1 30 0 k' = 0 | some T => σ'.1 30 0 k' = 1 ∧ rS (fun j => σ'.1 31 0 (26 * k' + j)) T)
    rw [h30]
    by_cases hkk : k' = k
    · rw [if_pos hkk, hkk]; exact ⟨pk_us, rS_cg h3 hA.2.2.1.1 (fun j hj => hs j hj)⟩
    · rw [if_neg hkk, pk_un hkk]
      have h9 := h5 k' hk'
      cases hi : aIm A k' with
      | none => rw [hi] at h9; exact h9
      | some T' =>
        rw [hi] at h9
        exact ⟨h9.1, rS_cg h9.2 (hA.2.2.2.2.1 k' hk' T' hi).1.1 (fun j hj => h31 _ (by omega))⟩
  · rw [(ha 21 0 rfl).1, (ha 32 0 rfl).1]; exact h6
  · rw [(ha 21 0 rfl).1]; exact h7
  · rw [(ha 21 0 rfl).1]; exact h8
theorem P_image {A : aS} (hA : okA A) (x : Int32) : Pair A jD_image jM_image [jm_I x] := by
  have h6 := hA.2.2.1.1
  by_cases hx : 0 ≤ x.toInt ∧ x.toInt ≤ 1
  case neg =>
    refine ⟨jm_I (-1000001), A, hA, fun σ hc => ⟨σ, ?_, hc, jm_ag.rf⟩, fun σ hr => ⟨jm_wi σ 21 0 0 0, ?_, hr.th 0, jm_ag.wi rfl⟩⟩
    · rw [gD_image_0, c_isImage, if_neg hx, Option.bind_some, jm_ps, gD_image_4, jm_cf (fun h9 => h9 rfl)]
    · rw [gM_image_0, r_in01, if_neg hx, Option.bind_some, jm_ps, gM_image_12, jm_cf (fun h9 => h9 rfl)]
  by_cases h0 : (aSh A).1 = 0
  · refine ⟨jm_I (-1000002), A, hA, fun σ hc => ⟨σ, ?_, hc, jm_ag.rf⟩, fun σ hr => ⟨jm_wi σ 21 0 0 0, ?_, hr.th 0, jm_ag.wi rfl⟩⟩
    · rw [gD_image_0, c_isImage, if_pos hx, Option.bind_some, jm_ps, gD_image_4, jm_ct (by decide), hc.2.2.1.1, h0, jm_cf (fun h9 => h9 rfl)]
    · rw [gM_image_0, r_in01, if_pos hx, Option.bind_some, jm_ps, gM_image_12, jm_ct (by decide), r_isThere 58 _ (hr.th 0).2.2.1.1 h6, if_pos h0, Option.bind_some, jm_ps, gM_image_22, jm_cf (fun h9 => h9 rfl)]
  have hne : ¬ nI (aSh A).1 = 0 := nI_ne0 (by omega) (by omega)
  obtain ⟨k, hk, rfl⟩ := jm_nI_of (x := x) (n := 2) hx.1 (by omega)
  have hok : okA (aImW A (fun k' => if k' = k then some (aSh A) else aIm A k')) := by
    refine ⟨hA.1, hA.2.1, hA.2.2.1, hA.2.2.2.1, fun k' hk' T h9 => ?_, hA.2.2.2.2.2⟩
    have h9 : (if k' = k then some (aSh A) else aIm A k') = some T := h9
    by_cases hkk : k' = k
    · rw [if_pos hkk] at h9; cases h9; exact ⟨hA.2.2.1, hA.2.2.1.2.1.resolve_left h0⟩
    · rw [if_neg hkk] at h9; exact hA.2.2.2.2.1 k' hk' T h9
  refine ⟨jm_I 1, aImW A (fun k' => if k' = k then some (aSh A) else aIm A k'), hok, fun σ hc => ?_, fun σ hr => ?_⟩
  · obtain ⟨σ1, e1, e2, e3⟩ := c_takeFrom 58 σ (r0 := 2 + k) (r1 := 0) (by omega) h6 hc.2.2.1
    refine ⟨σ1, ?_, cRel.im hk hc e2 e3, Ctf_cl e2⟩
    rw [gD_image_0, c_isImage, if_pos hx, Option.bind_some, jm_ps, gD_image_4, jm_ct (by decide), hc.2.2.1.1, jm_ct hne, c_imageAt 58 σ hk, Option.bind_some, jm_ps, gD_image_28, e1, Option.bind_some, jm_pn, gD_image_35]
  · have hr' := hr.th 0
    obtain ⟨σ1, e1, e2, e3, e4, e5⟩ := r_imL (jm_wi σ 21 0 0 0) hk 26 0 (jm_wi σ 21 0 0 0) rfl jm_ag.rf rfl (fun _ _ => rfl) (fun j hj => by omega)
    refine ⟨jm_wi σ1 30 0 k 1, ?_, rRel.im hA hk hr' (e2.tr (jm_ag.wi rfl)) (by rw [jm_w_s, e3]) e4 e5, (jm_ag.wi rfl).tr (C30_rf (e2.tr (jm_ag.wi rfl)))⟩
    rw [gM_image_0, r_in01, if_pos hx, Option.bind_some, jm_ps, gM_image_12, jm_ct (by decide), r_isThere 58 _ hr'.2.2.1.1 h6, if_neg h0, Option.bind_some, jm_ps, gM_image_22, jm_ct (by decide)]
    exact e1
theorem r_reL (σ0 : jm_S) {m : Nat} (hm : m < 2) : ∀ (f k : Nat) (σ : jm_S), k + f = 26 → jm_ag (fun k _ => k == 25) σ0 σ → (∀ j, j < k → σ.1 25 0 j = σ0.1 31 0 (26 * m + j)) → ∃ σ', jm_ev 59 (jM_restore, 32, [some (jm_R 21 0), some (jm_I (nI m)), some (jm_I (nI k))], [], σ) = some (some (jm_I 1), jm_wi σ' 21 0 9 0) ∧ jm_ag (fun k _ => k == 25) σ0 σ' ∧ (∀ j, j < 26 → σ'.1 25 0 j = σ0.1 31 0 (26 * m + j))
  | 0, k, σ, h, ha, h2 => by
    have : k = 26 := by omega
    subst this
    exact ⟨σ, by rw [gM_restore_32, jm_ct (show (26 : Int32) ≤ nI 26 by decide)], ha, h2⟩
  | f + 1, k, σ, h, ha, h2 => by
    obtain ⟨σ', e1, e2⟩ := r_reL σ0 hm f (k + 1) (jm_wi σ 25 0 k (σ.1 31 0 (26 * m + k))) (by omega) (ha.tr (jm_ag.wi rfl)) (fun j hj => by
      rw [jm_w_s]
      by_cases hk : j = k
      · subst hk; rw [pk_us, (ha 31 0 rfl).1]
      · rw [pk_un hk]; exact h2 j (by omega))
    refine ⟨σ', ?_, e2⟩
    rw [gM_restore_32, jm_cf (show ¬ (26 : Int32) ≤ nI k from nI_ge (b := 26) (by omega) (by decide)), show (26 : Int32) * nI m + nI k = nI (26 * m + k) from by rw [show (26 : Int32) = nI 26 from rfl, pk_mul, nI_add], jm_in_nI (show 26 * m + k < 52 by omega) (by decide), cond_true, jm_in_nI (show k < 26 by omega) (by decide), cond_true, jm_cl (by omega), jm_cl (by omega), nI_1, e1]
theorem P_restore {A : aS} (hA : okA A) (x : Int32) : Pair A jD_restore jM_restore [jm_I x] := by
  by_cases hx : 0 ≤ x.toInt ∧ x.toInt ≤ 1
  case neg =>
    refine ⟨jm_I (-1000001), A, hA, fun σ hc => ⟨σ, ?_, hc, jm_ag.rf⟩, fun σ hr => ⟨jm_wi σ 21 0 0 0, ?_, hr.th 0, jm_ag.wi rfl⟩⟩
    · rw [gD_restore_0, c_isImage, if_neg hx, Option.bind_some, jm_ps, gD_restore_4, jm_cf (fun h9 => h9 rfl)]
    · rw [gM_restore_0, r_in01, if_neg hx, Option.bind_some, jm_ps, gM_restore_12, jm_cf (fun h9 => h9 rfl)]
  obtain ⟨k, hk, rfl⟩ := jm_nI_of (x := x) (n := 2) hx.1 (by omega)
  have hcl : (nI k).toNatClampNeg = k := jm_cl (by omega)
  cases hT : aIm A k with
  | none =>
    refine ⟨jm_I (-1000002), A, hA, fun σ hc => ⟨σ, ?_, hc, jm_ag.rf⟩, fun σ hr => ⟨jm_wi σ 21 0 0 0, ?_, hr.th 0, jm_ag.wi rfl⟩⟩
    · have h9 := hc.2.2.2.2.1 k hk
      rw [hT] at h9
      rw [gD_restore_0, c_isImage, if_pos hx, Option.bind_some, jm_ps, gD_restore_4, jm_ct (by decide), c_imageAt 58 σ hk, Option.bind_some, jm_ps, gD_restore_15, jm_cf (fun h8 => h8 h9)]
    · have h9 := (hr.th 0).2.2.2.2.1 k hk
      rw [hT] at h9
      rw [gM_restore_0, r_in01, if_pos hx, Option.bind_some, jm_ps, gM_restore_12, jm_ct (by decide), jm_in_nI hk (by decide), cond_true, hcl, jm_cf (fun h8 => h8 h9)]
  | some T =>
    obtain ⟨hokT, hT2⟩ := hA.2.2.2.2.1 k hk T hT
    have hok : okA (aShW A T (0, fun _ => T)) := ⟨hA.1, hA.2.1, hokT, ⟨by show 0 ≤ 24; omega, rfl, fun i hi => absurd hi (Nat.not_lt_zero i)⟩, hA.2.2.2.2⟩
    refine ⟨jm_I 1, aShW A T (0, fun _ => T), hok, fun σ hc => ?_, fun σ hr => ?_⟩
    · have h9 := hc.2.2.2.2.1 k hk
      rw [hT] at h9
      have hne : ¬ nI T.1 = 0 := nI_ne0 (by omega) (by have := hokT.1; omega)
      obtain ⟨σ1, e1, e2, e3⟩ := c_takeFrom 58 σ (r0 := 0) (r1 := 2 + k) (by omega) hokT.1 h9
      have m0 : jm_ag Csh σ σ1 := e2.mo (fun g r h8 => by
        simp only [Csh, Bool.or_eq_false_iff] at h8
        cases h7 : (g == 7) with
        | true =>
          have h8 := h8.1.2
          rw [h7] at h8
          have h8 : Nat.blt r 2 = false := h8
          have hr0 : r ≠ 0 := fun q => by rw [q] at h8; cases h8
          have hg : g = 7 := by simpa using h7
          simp [Ctf, hg, hr0]
        | false =>
          cases h6 : (g == 9) with
          | true =>
            have h8 := h8.2
            rw [h6] at h8
            have h8 : Nat.blt r 8 = false := h8
            have hr4 : Nat.blt r (4 * 0 + 4) = false := by
              cases hb : Nat.blt r (4 * 0 + 4) with
              | false => rfl
              | true =>
                have := Nat.le_of_ble_eq_true hb
                rw [show Nat.blt r 8 = true from Nat.ble_eq_true_of_le (by omega)] at h8
                cases h8
            simp only [Ctf, h7, h6, hr4, Bool.and_false, Bool.or_false]
            rfl
          | false => simp only [Ctf, h7, h6]; rfl)
      refine ⟨jm_wi σ1 10 0 3 0, ?_, cRel.sh hc (m0.tr (jm_ag.wi rfl)) e3 ⟨rfl, fun i hi => absurd hi (Nat.not_lt_zero i)⟩, Csh_cl (m0.tr (jm_ag.wi rfl))⟩
      rw [gD_restore_0, c_isImage, if_pos hx, Option.bind_some, jm_ps, gD_restore_4, jm_ct (by decide), c_imageAt 58 σ hk, Option.bind_some, jm_ps, gD_restore_15, h9.1, jm_ct hne, c_imageAt 58 σ hk, Option.bind_some, jm_ps, gD_restore_33, e1, Option.bind_some, jm_pn, gD_restore_36, gA_forgetAll_0, Option.bind_some, jm_pn, gD_restore_43]
    · have hr' := hr.th 0
      have h9 := hr'.2.2.2.2.1 k hk
      rw [hT] at h9
      obtain ⟨σ1, e1, e2, e3⟩ := r_reL (jm_wi σ 21 0 0 0) hk 26 0 (jm_wi σ 21 0 0 0) rfl jm_ag.rf (fun j hj => by omega)
      have m25 : jm_ag Crh (jm_wi σ 21 0 0 0) σ1 := e2.mo (fun k r h9 => by
        simp only [Crh, Bool.or_eq_false_iff] at h9
        exact h9.1.2)
      have hone : ¬ (jm_wi σ 21 0 0 0).1 30 0 k = 0 := by rw [h9.1]; decide
      refine ⟨jm_wi σ1 21 0 9 0, ?_, rRel.sh hr' (m25.tr (jm_ag.wi rfl)) (fun j hj => ?_) (rS_cg h9.2 hokT.1 e3) ⟨rfl, fun i hi => absurd hi (Nat.not_lt_zero i)⟩, (jm_ag.wi rfl).tr (Crh_rf (m25.tr (jm_ag.wi rfl)))⟩
      · rw [gM_restore_0, r_in01, if_pos hx, Option.bind_some, jm_ps, gM_restore_12, jm_ct (by decide), jm_in_nI hk (by decide), cond_true, hcl, jm_ct hone]
        exact e1
      · rw [jm_w_s, pk_un (by omega), (e2 21 0 rfl).1]
