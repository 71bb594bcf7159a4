-- METHODS: ask, the reference
theorem r_plain (e : Nat) (σ : jm_S) {n d : Nat} (hn : σ.1 21 0 25 = nI n) (h : n < 16) (hd : d < 6) : jm_call (e + 2) jM_plainSize [jm_R 21 0, jm_I (nI d)] σ = some (some (jm_I (σ.1 25 0 (2 + 4 * d + 2))), U1 σ n 10) := by
  rw [gM_plainSize_0, r_began _ σ 10 hn h, Option.bind_some, jm_pn, gM_plainSize_6, r_of2 _ _ 0 hd, Option.bind_some, jm_ps, gM_plainSize_15, U1_9]
theorem r_tied4 (e : Nat) (σ : jm_S) {n d : Nat} (hn : σ.1 21 0 25 = nI n) (h : n + 2 ≤ 16) (hd : d < 6) (hκ : σ.1 25 0 (2 + 4 * d) = nI 4) : jm_call (e + 3) jM_tiedSize [jm_R 21 0, jm_I (nI d)] σ = some (some (jm_I (σ.1 25 0 (2 + 4 * d + 2) - 100)), U1 (U1 σ n 13) (n + 1) 10) := by
  rw [gM_tiedSize_0, r_of0 _ _ 0 hd, hκ, Option.bind_some, jm_ps, gM_tiedSize_9, jm_ct (show ¬ nI 4 = 5 by decide), gM_tiedSize_18, jm_ct rfl, gM_tiedSize_29, r_began _ σ 13 hn (by omega), Option.bind_some, jm_pn, gM_tiedSize_35, r_plain _ (U1 σ n 13) (n := n + 1) (U1_25 _ _ _) (by omega) hd, Option.bind_some, jm_ps, gM_tiedSize_40, jm_ct rfl, gM_tiedSize_55, U1_9]
theorem r_tied5 (e : Nat) (σ : jm_S) {n d : Nat} (hn : σ.1 21 0 25 = nI n) (h : n + 3 ≤ 16) (hd : d < 6) (hκ : σ.1 25 0 (2 + 4 * d) = nI 5) : jm_call (e + 3) jM_tiedSize [jm_R 21 0, jm_I (nI d)] σ = some (some (jm_I (2 * (σ.1 25 0 (2 + 4 * d + 2) - 100))), U1 (U1 (U1 σ n 14) (n + 1) 13) (n + 2) 10) := by
  rw [gM_tiedSize_0, r_of0 _ _ 0 hd, hκ, Option.bind_some, jm_ps, gM_tiedSize_9, jm_cf (fun h9 => h9 rfl), gM_tiedSize_18, jm_cf (by decide), r_began _ σ 14 hn (by omega), Option.bind_some, jm_pn, gM_tiedSize_29, r_began _ (U1 σ n 14) 13 (n := n + 1) (U1_25 _ _ _) (by omega), Option.bind_some, jm_pn, gM_tiedSize_35, r_plain _ (U1 (U1 σ n 14) (n + 1) 13) (n := n + 2) (U1_25 _ _ _) (by omega) hd, Option.bind_some, jm_ps, gM_tiedSize_40, jm_cf (by decide), gM_tiedSize_55, U1_9, U1_9]
theorem r_mark1 (e : Nat) (σ : jm_S) {n d : Nat} (hn : σ.1 21 0 25 = nI n) (h : n + 2 ≤ 16) (hd : d < 6) (hκ : σ.1 25 0 (2 + 4 * d) = nI 1) : jm_call (e + 2) jM_markOf [jm_R 21 0, jm_I (nI d)] σ = some (some (jm_I (nI d + σ.1 25 0 (2 + 4 * d + 1))), U1 (U1 σ n 21) (n + 1) 20) := by
  rw [gM_markOf_0, r_of0 _ _ 0 hd, hκ, Option.bind_some, jm_ps, gM_markOf_9, jm_ct (show nI 1 < 4 by decide), jm_ct (show nI 1 = 1 from rfl), gM_markOf_56, r_began _ σ 21 hn (by omega), Option.bind_some, jm_pn, gM_markOf_62, r_began _ (U1 σ n 21) 20 (n := n + 1) (U1_25 _ _ _) (by omega), Option.bind_some, jm_pn, gM_markOf_68, r_of1 _ _ 0 hd, Option.bind_some, jm_ps, gM_markOf_78, jm_cf (fun h9 => h9 rfl), gM_markOf_105, U1_9, U1_9]
theorem r_mark2 (e : Nat) (σ : jm_S) {n d : Nat} (hn : σ.1 21 0 25 = nI n) (h : n + 3 ≤ 16) (hd : d < 6) (hκ : σ.1 25 0 (2 + 4 * d) = nI 2) : jm_call (e + 2) jM_markOf [jm_R 21 0, jm_I (nI d)] σ = some (some (jm_I (2 * (nI d + σ.1 25 0 (2 + 4 * d + 1)))), U1 (U1 (U1 σ n 24) (n + 1) 21) (n + 2) 20) := by
  rw [gM_markOf_0, r_of0 _ _ 0 hd, hκ, Option.bind_some, jm_ps, gM_markOf_9, jm_ct (show nI 2 < 4 by decide), jm_cf (show ¬ nI 2 = 1 by decide), jm_ct (show ¬ nI 2 = 3 by decide), gM_markOf_53, r_began _ σ 24 hn (by omega), Option.bind_some, jm_pn, gM_markOf_56, r_began _ (U1 σ n 24) 21 (n := n + 1) (U1_25 _ _ _) (by omega), Option.bind_some, jm_pn, gM_markOf_62, r_began _ (U1 (U1 σ n 24) (n + 1) 21) 20 (n := n + 2) (U1_25 _ _ _) (by omega), Option.bind_some, jm_pn, gM_markOf_68, r_of1 _ _ 0 hd, Option.bind_some, jm_ps, gM_markOf_78, jm_ct (show ¬ nI 2 = 1 by decide), jm_ct (show ¬ nI 2 = 3 by decide), gM_markOf_105, U1_9, U1_9, U1_9]
theorem r_mark3 (e : Nat) (σ : jm_S) {n d : Nat} (hn : σ.1 21 0 25 = nI n) (h : n + 3 ≤ 16) (hd : d < 6) (hκ : σ.1 25 0 (2 + 4 * d) = nI 3) : jm_call (e + 2) jM_markOf [jm_R 21 0, jm_I (nI d)] σ = some (some (jm_I (nI d + σ.1 25 0 (2 + 4 * d + 1) - 1000)), U1 (U1 (U1 σ n 22) (n + 1) 21) (n + 2) 20) := by
  rw [gM_markOf_0, r_of0 _ _ 0 hd, hκ, Option.bind_some, jm_ps, gM_markOf_9, jm_ct (show nI 3 < 4 by decide), jm_cf (show ¬ nI 3 = 1 by decide), jm_cf (fun h9 => h9 rfl), gM_markOf_53, r_began _ σ 22 hn (by omega), Option.bind_some, jm_pn, gM_markOf_56, r_began _ (U1 σ n 22) 21 (n := n + 1) (U1_25 _ _ _) (by omega), Option.bind_some, jm_pn, gM_markOf_62, r_began _ (U1 (U1 σ n 22) (n + 1) 21) 20 (n := n + 2) (U1_25 _ _ _) (by omega), Option.bind_some, jm_pn, gM_markOf_68, r_of1 _ _ 0 hd, Option.bind_some, jm_ps, gM_markOf_78, jm_ct (show ¬ nI 3 = 1 by decide), jm_cf (fun h9 => h9 rfl), gM_markOf_105, U1_9, U1_9, U1_9]
theorem r_mark4 (e : Nat) (σ σ' : jm_S) {n d κ : Nat} {m : Int32} (hn : σ.1 21 0 25 = nI n) (h : n + 2 ≤ 16) (hd : d < 6) (hκ : σ.1 25 0 (2 + 4 * d) = nI κ) (k4 : ¬ nI κ < 4) (ht : jm_call (e + 3) jM_tiedSize [jm_R 21 0, jm_I (nI d)] (U1 (U1 σ n 23) (n + 1) 20) = some (some (jm_I m), σ')) : jm_call (e + 4) jM_markOf [jm_R 21 0, jm_I (nI d)] σ = some (some (jm_I (nI d - m)), σ') := by
  rw [gM_markOf_0, r_of0 _ _ 0 hd, hκ, Option.bind_some, jm_ps, gM_markOf_9, jm_cf k4, r_began _ σ 23 hn (by omega), Option.bind_some, jm_pn, gM_markOf_21, r_began _ (U1 σ n 23) 20 (n := n + 1) (U1_25 _ _ _) (by omega), Option.bind_some, jm_pn, gM_markOf_27, ht, Option.bind_some, jm_ps, gM_markOf_33]
theorem r_size4 (e : Nat) (σ σ' : jm_S) {d κ : Nat} {m : Int32} (hd : d < 6) (hκ : σ.1 25 0 (2 + 4 * d) = nI κ) (k4 : ¬ nI κ < 4) (ht : jm_call (e + 3) jM_tiedSize [jm_R 21 0, jm_I (nI d)] σ = some (some (jm_I m), σ')) : jm_call (e + 4) jM_sizeOf [jm_R 21 0, jm_I (nI d)] σ = some (some (jm_I m), σ') := by
  rw [gM_sizeOf_0, r_of0 _ _ 0 hd, hκ, Option.bind_some, jm_ps, gM_sizeOf_9, jm_cf k4, ht, Option.bind_some, jm_ps, gM_sizeOf_20]
theorem r_size13 (e : Nat) (σ σ' : jm_S) {n d κ : Nat} {m : Int32} (hn : σ.1 21 0 25 = nI n) (h : n + 2 ≤ 16) (hd : d < 6) (hκ : σ.1 25 0 (2 + 4 * d) = nI κ) (k4 : nI κ < 4) (k2 : ¬ nI κ = 2) (ht : jm_call (e + 3) jM_markOf [jm_R 21 0, jm_I (nI d)] (U1 (U1 σ n 11) (n + 1) 10) = some (some (jm_I m), σ')) : jm_call (e + 4) jM_sizeOf [jm_R 21 0, jm_I (nI d)] σ = some (some (jm_I (σ.1 25 0 (2 + 4 * d + 2) + m)), σ') := by
  rw [gM_sizeOf_0, r_of0 _ _ 0 hd, hκ, Option.bind_some, jm_ps, gM_sizeOf_9, jm_ct k4, jm_ct k2, gM_sizeOf_32, r_began _ σ 11 hn (by omega), Option.bind_some, jm_pn, gM_sizeOf_38, r_plain _ (U1 σ n 11) (n := n + 1) (U1_25 _ _ _) (by omega) hd, Option.bind_some, jm_ps, gM_sizeOf_43, ht, Option.bind_some, jm_ps, gM_sizeOf_50, jm_ct k2, gM_sizeOf_63, U1_9]
theorem r_size2 (e : Nat) (σ σ' : jm_S) {n d : Nat} {m : Int32} (hn : σ.1 21 0 25 = nI n) (h : n + 3 ≤ 16) (hd : d < 6) (hκ : σ.1 25 0 (2 + 4 * d) = nI 2) (ht : jm_call (e + 3) jM_markOf [jm_R 21 0, jm_I (nI d)] (U1 (U1 (U1 σ n 12) (n + 1) 11) (n + 2) 10) = some (some (jm_I m), σ')) : jm_call (e + 4) jM_sizeOf [jm_R 21 0, jm_I (nI d)] σ = some (some (jm_I (-(σ.1 25 0 (2 + 4 * d + 2) + m))), σ') := by
  rw [gM_sizeOf_0, r_of0 _ _ 0 hd, hκ, Option.bind_some, jm_ps, gM_sizeOf_9, jm_ct (show nI 2 < 4 by decide), jm_cf (fun h9 => h9 rfl), r_began _ σ 12 hn (by omega), Option.bind_some, jm_pn, gM_sizeOf_32, r_began _ (U1 σ n 12) 11 (n := n + 1) (U1_25 _ _ _) (by omega), Option.bind_some, jm_pn, gM_sizeOf_38, r_plain _ (U1 (U1 σ n 12) (n + 1) 11) (n := n + 2) (U1_25 _ _ _) (by omega) hd, Option.bind_some, jm_ps, gM_sizeOf_43, ht, Option.bind_some, jm_ps, gM_sizeOf_50, jm_cf (fun h9 => h9 rfl), gM_sizeOf_63, U1_9, U1_9]
theorem r_ask (σ : jm_S) {κ d : Nat} (k1 : 1 ≤ κ) (k6 : κ < 6) (hd : d < 6) (hn : σ.1 21 0 25 = nI 0) (hκ : σ.1 25 0 (2 + 4 * d) = nI κ) : jm_call 59 jM_sizeOf [jm_R 21 0, jm_I (nI d)] σ = some (some (jm_I (askV κ 0 (nI d) (σ.1 25 0 (2 + 4 * d + 2)) (σ.1 25 0 (2 + 4 * d + 1)))), rTs (askC κ 0) 0 σ) ∧ jm_call 59 jM_markOf [jm_R 21 0, jm_I (nI d)] σ = some (some (jm_I (askV κ 1 (nI d) (σ.1 25 0 (2 + 4 * d + 2)) (σ.1 25 0 (2 + 4 * d + 1)))), rTs (askC κ 1) 0 σ) := by
  rcases (show κ = 1 ∨ κ = 2 ∨ κ = 3 ∨ κ = 4 ∨ κ = 5 by omega) with rfl | rfl | rfl | rfl | rfl
  · exact ⟨r_size13 55 σ _ hn (by omega) hd hκ (by decide) (by decide) (r_mark1 56 (U1 (U1 σ 0 11) 1 10) (U1_25 _ _ _) (by omega) hd hκ), r_mark1 57 σ hn (by omega) hd hκ⟩
  · exact ⟨r_size2 55 σ _ hn (by omega) hd hκ (r_mark2 56 (U1 (U1 (U1 σ 0 12) 1 11) 2 10) (U1_25 _ _ _) (by omega) hd hκ), r_mark2 57 σ hn (by omega) hd hκ⟩
  · exact ⟨r_size13 55 σ _ hn (by omega) hd hκ (by decide) (by decide) (r_mark3 56 (U1 (U1 σ 0 11) 1 10) (U1_25 _ _ _) (by omega) hd hκ), r_mark3 57 σ hn (by omega) hd hκ⟩
  · exact ⟨r_size4 55 σ _ hd hκ (by decide) (r_tied4 55 σ hn (by omega) hd hκ), r_mark4 55 σ _ hn (by omega) hd hκ (by decide) (r_tied4 55 (U1 (U1 σ 0 23) 1 20) (U1_25 _ _ _) (by omega) hd hκ)⟩
  · exact ⟨r_size4 55 σ _ hd hκ (by decide) (r_tied5 55 σ hn (by omega) hd hκ), r_mark4 55 σ _ hn (by omega) hd hκ (by decide) (r_tied5 55 (U1 (U1 σ 0 23) 1 20) (U1_25 _ _ _) (by omega) hd hκ)⟩
abbrev aTrW (A : aS) (t : Nat × (Nat → Int32)) : aS := (A.1, A.2.1, A.2.2.1, A.2.2.2.1, A.2.2.2.2.1, t, A.2.2.2.2.2.2)
def trC : List Int32 → Nat → (Nat → Int32) → Nat × (Nat → Int32)
  | [], n, f => (n, f)
  | c :: l, n, f => trC l (n + 1) (upd f n c)
theorem trC_le : ∀ (l : List Int32) (n : Nat) (f : Nat → Int32), (trC l n f).1 = n + l.length
  | [], n, f => rfl
  | c :: l, n, f => by show (trC l (n + 1) (upd f n c)).1 = _; rw [trC_le l]; simp; omega
theorem cRel.ts {A : aS} : ∀ (l : List Int32) (n : Nat) (f : Nat → Int32) (σ : jm_S), cRel σ (aTrW A (n, f)) → cRel (cTs l n σ) (aTrW A (trC l n f)) ∧ jm_ag Ccl σ (cTs l n σ)
  | [], n, f, σ, h => ⟨h, jm_ag.rf⟩
  | c :: l, n, f, σ, h => by
    obtain ⟨h1, h2, h3, h4, h5, h6, h7, h8⟩ := h
    have h' : cRel (T1 σ n c) (aTrW A (n + 1, upd f n c)) := by
      refine ⟨h1, h2, h3, h4, h5, ⟨T1_11 σ n c, fun j hj => ?_⟩, h7, h8⟩
      have hj : j < n + 1 := hj
      show upd (σ.1 20 0) n c j = upd f n c j
      by_cases hjn : j = n
      · subst hjn; rw [pk_us, pk_us]
      · rw [pk_un hjn, pk_un hjn]; exact h6.2 j (by show j < n; omega)
    obtain ⟨a, b⟩ := cRel.ts l (n + 1) (upd f n c) (T1 σ n c) h'
    exact ⟨a, ((jm_ag.wi rfl).tr (jm_ag.wi rfl)).tr b⟩
theorem rRel.ts {A : aS} : ∀ (l : List Int32) (n : Nat) (f : Nat → Int32) (σ : jm_S), rRel σ (aTrW A (n, f)) → rRel (rTs l n σ) (aTrW A (trC l n f)) ∧ jm_ag Crf σ (rTs l n σ)
  | [], n, f, σ, h => ⟨h, jm_ag.rf⟩
  | c :: l, n, f, σ, h => by
    obtain ⟨h1, h2, h3, h4, h5, h6, h7, h8⟩ := h
    have h' : rRel (U1 σ n c) (aTrW A (n + 1, upd f n c)) := by
      refine ⟨h1, h2, h3, h4, h5, ⟨U1_25 σ n c, fun j hj => ?_⟩, h7, h8⟩
      have hj : j < n + 1 := hj
      show upd (σ.1 32 0) n c j = upd f n c j
      by_cases hjn : j = n
      · subst hjn; rw [pk_us, pk_us]
      · rw [pk_un hjn, pk_un hjn]; exact h6.2 j (by show j < n; omega)
    obtain ⟨a, b⟩ := rRel.ts l (n + 1) (upd f n c) (U1 σ n c) h'
    exact ⟨a, ((jm_ag.wi rfl).tr (jm_ag.wi rfl)).tr b⟩
theorem P_ask {A : aS} (hA : okA A) (x y : Int32) : Pair A jD_ask jM_ask [jm_I x, jm_I y] := by
  have h6 := hA.2.2.1.1
  by_cases h : 0 ≤ x.toInt ∧ x.toInt < (aSh A).1
  case neg =>
    refine ⟨jm_I (-1000001), A, hA, fun σ hc => ⟨σ, ?_, hc, jm_ag.rf⟩, fun σ hr => ⟨jm_wi σ 21 0 0 0, ?_, hr.th 0, jm_ag.wi rfl⟩⟩
    · rw [gD_ask_0, c_has 58 σ 0 _ hc.2.2.1.1 h6, if_neg h, Option.bind_some, jm_ps, gD_ask_8, jm_ct rfl, gD_ask_20]
    · rw [gM_ask_0, r_isDisc 57 _ _ (hr.th 0).2.2.1.1 h6, if_neg h, Option.bind_some, jm_ps, gM_ask_10, jm_ct rfl, gM_ask_23]
  obtain ⟨i, hi, rfl⟩ := jm_nI_of h.1 h.2
  rcases c01 y with hy | hy
  · refine ⟨jm_I (-1000001), A, hA, fun σ hc => ⟨σ, ?_, hc, jm_ag.rf⟩, fun σ hr => ⟨jm_wi σ 21 0 0 0, ?_, hr.th 0, jm_ag.wi rfl⟩⟩
    · rw [gD_ask_0, c_has 58 σ 0 _ hc.2.2.1.1 h6, if_pos h, Option.bind_some, jm_ps, gD_ask_8, jm_cf (by decide), gD_ask_20]
      by_cases hy0 : y < 0
      · rw [jm_ct hy0]
      · rw [jm_cf hy0, jm_cf (hy.resolve_left hy0)]
    · have hin : ¬ (0 ≤ y.toInt ∧ y.toInt ≤ 1) := by
        rw [jm_ti32, jm_te32, show (0 : Int32).toInt = 0 from rfl, show (1 : Int32).toInt = 1 from rfl] at hy
        omega
      rw [gM_ask_0, r_isDisc 57 _ _ (hr.th 0).2.2.1.1 h6, if_pos h, Option.bind_some, jm_ps, gM_ask_10, jm_cf (by decide), r_in01, if_neg hin, Option.bind_some, jm_ps, gM_ask_20, jm_cf (fun h9 => h9 rfl), gM_ask_23]
  · obtain ⟨κ, k1, k6, hκ⟩ := kind_of hA hi
    have hok : ∀ q, okA (aTrW A (trC (askC κ q) 0 (aTr A).2)) := fun q => ⟨hA.1, hA.2.1, hA.2.2.1, hA.2.2.2.1, hA.2.2.2.2.1, by
      show (trC (askC κ q) 0 (aTr A).2).1 ≤ 16
      rw [trC_le]
      unfold askC
      split <;> simp⟩
    have hcs : ∀ σ, cRel σ A → cRel (jm_wi σ 0 0 11 0) (aTrW A (0, (aTr A).2)) := fun σ hc => ⟨hc.1, hc.2.1, hc.2.2.1, hc.2.2.2.1, hc.2.2.2.2.1, ⟨rfl, fun j hj => absurd hj (Nat.not_lt_zero j)⟩, hc.2.2.2.2.2.2.1, hc.2.2.2.2.2.2.2⟩
    have hrs : ∀ σ, rRel σ A → rRel (jm_wi σ 21 0 25 0) (aTrW A (0, (aTr A).2)) := fun σ hc => ⟨hc.1, hc.2.1, hc.2.2.1, hc.2.2.2.1, hc.2.2.2.2.1, ⟨rfl, fun j hj => absurd hj (Nat.not_lt_zero j)⟩, hc.2.2.2.2.2.2.1, hc.2.2.2.2.2.2.2⟩
    have hc3 : ∀ σ, cRel σ A → ∀ w, w < 4 → (jm_wi σ 0 0 11 0).1 9 w i = (aSh A).2.2 w i := fun σ hc w hw => by
      have := hc.2.2.1.2.2 w hw i hi
      rw [show 4 * 0 + w = w by omega] at this
      exact this
    have hr3 : ∀ σ, rRel σ A → rS ((jm_wi (jm_wi σ 21 0 0 0) 21 0 25 0).1 25 0) (aSh A) := fun σ hr => hr.2.2.1
    rcases hy with rfl | rfl
    · refine ⟨jm_I (askV κ 0 (nI i) ((aSh A).2.2 1 i) ((aSh A).2.2 0 i)), aTrW A (trC (askC κ 0) 0 (aTr A).2), hok 0, fun σ hc => ?_, fun σ hr => ?_⟩
      · have e1 := (c_ask (jm_wi σ 0 0 11 0) k1 k6 (show i < 6 by omega) rfl ((hc3 σ hc 3 (by omega)).trans hκ)).1
        rw [hc3 σ hc 1 (by omega), hc3 σ hc 0 (by omega)] at e1
        have e1' : jm_call 59 jD_asked [jm_R 0 0, jm_I (nI i), jm_I 0, jm_I 0] (jm_wi σ 0 0 11 0) = _ := e1
        obtain ⟨a, b⟩ := cRel.ts (askC κ 0) 0 (aTr A).2 _ (hcs σ hc)
        refine ⟨_, ?_, a, (jm_ag.wi rfl).tr b⟩
        rw [gD_ask_0, c_has 58 σ 0 _ hc.2.2.1.1 h6, if_pos h, Option.bind_some, jm_ps, gD_ask_8, jm_cf (by decide), jm_cf (by decide), jm_ct (by decide), e1', Option.bind_some, jm_ps, gD_ask_35]
      · have hS := hr3 σ hr
        have e1 := (r_ask (jm_wi (jm_wi σ 21 0 0 0) 21 0 25 0) k1 k6 (show i < 6 by omega) rfl (((hS.2.2 i hi).1).trans hκ)).1
        rw [(hS.2.2 i hi).2.2.1, (hS.2.2 i hi).2.1] at e1
        obtain ⟨a, b⟩ := rRel.ts (askC κ 0) 0 (aTr A).2 _ (hrs _ (hr.th 0))
        refine ⟨_, ?_, a, ((jm_ag.wi rfl).tr (jm_ag.wi rfl)).tr b⟩
        rw [gM_ask_0, r_isDisc 57 _ _ (hr.th 0).2.2.1.1 h6, if_pos h, Option.bind_some, jm_ps, gM_ask_10, jm_cf (by decide), r_in01, if_pos (by decide), Option.bind_some, jm_ps, gM_ask_20, jm_ct (by decide), jm_cf (fun h9 => h9 rfl), e1, Option.bind_some, jm_ps, gM_ask_40, gM_ask_48]
    · refine ⟨jm_I (askV κ 1 (nI i) ((aSh A).2.2 1 i) ((aSh A).2.2 0 i)), aTrW A (trC (askC κ 1) 0 (aTr A).2), hok 1, fun σ hc => ?_, fun σ hr => ?_⟩
      · have e1 := (c_ask (jm_wi σ 0 0 11 0) k1 k6 (show i < 6 by omega) rfl ((hc3 σ hc 3 (by omega)).trans hκ)).2
        rw [hc3 σ hc 1 (by omega), hc3 σ hc 0 (by omega)] at e1
        have e1' : jm_call 59 jD_asked [jm_R 0 0, jm_I (nI i), jm_I 1, jm_I 0] (jm_wi σ 0 0 11 0) = _ := e1
        obtain ⟨a, b⟩ := cRel.ts (askC κ 1) 0 (aTr A).2 _ (hcs σ hc)
        refine ⟨_, ?_, a, (jm_ag.wi rfl).tr b⟩
        rw [gD_ask_0, c_has 58 σ 0 _ hc.2.2.1.1 h6, if_pos h, Option.bind_some, jm_ps, gD_ask_8, jm_cf (by decide), jm_cf (by decide), jm_ct (by decide), e1', Option.bind_some, jm_ps, gD_ask_35]
      · have hS := hr3 σ hr
        have e1 := (r_ask (jm_wi (jm_wi σ 21 0 0 0) 21 0 25 0) k1 k6 (show i < 6 by omega) rfl (((hS.2.2 i hi).1).trans hκ)).2
        rw [(hS.2.2 i hi).2.2.1, (hS.2.2 i hi).2.1] at e1
        obtain ⟨a, b⟩ := rRel.ts (askC κ 1) 0 (aTr A).2 _ (hrs _ (hr.th 0))
        refine ⟨_, ?_, a, ((jm_ag.wi rfl).tr (jm_ag.wi rfl)).tr b⟩
        rw [gM_ask_0, r_isDisc 57 _ _ (hr.th 0).2.2.1.1 h6, if_pos h, Option.bind_some, jm_ps, gM_ask_10, jm_cf (by decide), r_in01, if_pos (by decide), Option.bind_some, jm_ps, gM_ask_20, jm_ct (by decide), jm_ct (by decide), e1, Option.bind_some, jm_ps, gM_ask_48]
