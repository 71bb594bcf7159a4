-- rows of the machine over the world: calls
theorem jm_gtt : GoodIn jm_tgd jm_tgd := fun _ h => ⟨h, good_of_word (List.mem_filter.mp h).2⟩
theorem jm_gin {w : Cond} (h : w ∈ lw_tbl) (hg : goodWord w = true) : w ∈ jm_tgd ∧ ((w.onTables && w.keeps) = true ∨ ∃ ty, w = .arrayClass ty) := ⟨jm_tgd_mem h hg, good_of_word hg⟩
section JC
variable {l : Launch} {α : Nat → Nat → Nat} {cy : jm_C} {D : va_G} {M : jm_M} {cc : ByteArray} {ret : Option FieldType} {Q : State → Prop}
  {p : Program} {e : Env} {s : State} {m : MethodId} {args : Array Value} {below : List Frame} {meth : Method} {c : Code} {A : Nat → Prop} {H : Heap} {locs : List Loc} {ls : Array Slot} {rest : List Value} {σ σ1 : jm_S} {pc ix n d : Nat} {r1 : Option jm_V} {R : Room}
theorem jm_fre (hH : jm_H α cy D A s σ H locs) (hA : ∀ q, s.heap.size ≤ q → A q) : ∀ q, va_A (jm_wd α cy σ) H.size q → A q := by
  intro q h
  rcases h with ⟨k, e, h⟩ | h
  · exact hH.2.1.2 k _ h
  · exact hA q (Nat.le_trans hH.2.2.1 h)
theorem jm_pw (X : jm_X α cy D A M cc ret p s m args meth c) (hH : jm_H α cy D A s σ H locs) {U : State} (hU : U.heap = H) (hW : s.WarmedH U.vm) : jm_Pw α cy D H.size σ U := by
  have hH0 := hH
  obtain ⟨hx, hb, hml, hown, hts, hN, hK, hZ, hA, hr, hlocks⟩ := X
  obtain ⟨hP, hD, hS⟩ := hH
  refine ⟨by rw [hU], by rw [hU]; exact hP, hD.weaken (fun _ _ _ _ => trivial), va_K.moved hW.alike hK, jm_nw_warm hW hN, fun i hi => ?_⟩
  obtain ⟨z1, z2⟩ := hZ i hi
  rw [hU]
  exact ⟨((z1.kept hS.2.1).moved hW.alike).narrow (jm_fre hH0 hA), ((z2.kept hS.2.1).moved hW.alike).narrow (jm_fre hH0 hA)⟩
theorem jm_rcall {st0 : List Value} {a : Array Value} (hA : ∀ q, s.heap.size ≤ q → A q) (hH : jm_H α cy D A s σ H locs)
    (hr : va_Run p l e R s m args below meth c H locs 0 0 0 0 (F0 m pc ls st0) rest (jm_Q α cy D (va_A (jm_wd α cy σ) H.size) r1 σ1 a) (va_A (jm_wd α cy σ) H.size))
    (kk : ∀ (H1 : Heap) (locs1 : List Loc), jm_H α cy D A s σ1 H1 locs1 → jm_oko r1 → W p l e R s m args below meth c H1 locs1 0 0 Q (F0 m (pc + 3) ls ((r1.map (jm_cv α)).toList ++ rest))) : W p l e R s m args below meth c H locs 0 0 Q (F0 m pc ls st0) := by
  have hf := jm_fre hH hA
  obtain ⟨hP, hD, hS⟩ := hH
  intro T hT X
  obtain ⟨v, st₀, t, T', L, h0, X', hL, e1, e2, ⟨hv, ho, hp, hz, hk⟩, st⟩ := hr T hT X
  cases hv
  rw [h0] at hz hk
  have hS' : va_S A s.heap T'.heap (locs ++ L) := ⟨Nat.le_trans hS.1 (by rw [e1]; exact hz), fun q h1 h2 => by rw [e1, hk q (Nat.lt_of_lt_of_le h1 hS.1) (fun z => h2 (hf q z))]; exact hS.2.1 q h1 h2, fun q hq => by
      rcases List.mem_append.mp hq with h | h
      · exact hS.2.2 q h
      · exact hf _ (hL q h)⟩
  obtain ⟨t2, a1, b1⟩ := kk T'.heap (locs ++ L) ⟨by rw [e1]; exact hp, jm_wd_D hD, hS'⟩ ho T' rfl X'
  exact ⟨t2, st t2 a1, b1⟩
theorem jm_rcv (hMn : jm_Metn l α cy D n) (X : jm_X α cy D A M cc ret p s m args meth c) (hH : jm_H α cy D A s σ H locs) {M' : jm_M} {as st : List jm_V} {k r na : Nat} (hlk : jm_lk2 jm_cvL M.1 ix = some (M', na)) (hna : as.length = na) (hok : jm_okr (k, r)) (hoks : jm_oks as) (hsh : jm_sh k = (0, M'.1)) (hcat : jm_cats (jm_R k r :: as) ≤ M'.2.2.1) (h8 : jm_cats st ≤ 8) (hrun : jm_run n d (jm_en M' (jm_R k r :: as) σ) = some (r1, σ1)) (hsz : ls.size = M.2.2.1) (hd : decode cc pc = .ok (.invokevirtual ix, 3))
    (kk : ∀ (H1 : Heap) (locs1 : List Loc), jm_H α cy D A s σ1 H1 locs1 → jm_oko r1 → W p l e (jm_rm (d + 1)) s m args below meth c H1 locs1 0 0 Q (F0 m (pc + 3) ls ((r1.map (jm_cv α)).toList ++ st.map (jm_cv α)))) : W p l e (jm_rm (d + 1)) s m args below meth c H locs 0 0 Q (F0 m pc ls ((as.map (jm_cv α)).reverse ++ .ref (α k r) :: st.map (jm_cv α))) := by
  have X0 := X
  obtain ⟨hx, hb, hml, hown, hts, hN, hK, hZ, hA, hr, hlocks⟩ := X
  obtain ⟨y, cc', ret', hM', hpd, hins, hsel, hini, hlink⟩ := jm_cvk _ (jm_lk2_mem hlk)
  dsimp only at hM' hpd hlink
  obtain ⟨h1, h2⟩ := jm_okw hok (by rw [hsh]; intro h9; cases h9)
  have he := jm_wd_at (α := α) (cy := cy) (σ := σ) h1 h2
  rw [jm_ce0 hsh] at he
  have hMet := hMn d M' y cc' ret' hM' (jm_R k r :: as) σ r1 σ1 ⟨hok, hoks⟩ hcat hrun H.size
  obtain ⟨-, -, hcode, hcls, hpl, h20, hmh⟩ := hM'
  have hcl : ∀ k, k < 33 → (jm_sh k).1 = 0 → ∃ q : vw_C, vwCl[(jm_sh k).2]? = some q ∧ q.1 = jm_cn (jm_sh k).2 := by
    intro k hk h0
    have : ∀ k, k < 33 → (jm_sh k).1 = 0 → ((vwCl[(jm_sh k).2]?).map fun q => q.1) = some (jm_cn (jm_sh k).2) := by decide
    have h := this k hk h0
    cases hq : vwCl[(jm_sh k).2]? with
    | none => rw [hq] at h; cases h
    | some q => rw [hq] at h; exact ⟨q, rfl, Option.some.inj h⟩
  obtain ⟨q, hq1, hq2⟩ := hcl k h1 (by rw [hsh])
  rw [hsh] at hq1 hq2
  dsimp only at hq1 hq2
  have hrecv := va_recv hK hH.1 hq1 he
  rw [hq2, ← hcls] at hrecv
  have hbl := jm_blind α cy D H.size σ ((jm_R k r :: as).map (jm_cv α))
  have hpre : PreV s H y.cls (α k r) (va_Pc ((jm_R k r :: as).map (jm_cv α)) (jm_Pw α cy D H.size σ)) (as.map (jm_cv α)) := ⟨hbl, hrecv, fun U hU hW => ⟨rfl, jm_pw X0 hH hU hW⟩⟩
  have hR : (jm_rm d).frames + 1 ≤ (jm_rm (d + 1)).frames ∧ 8 + (M'.2.2.1 + 11) + (jm_rm d).locals ≤ (jm_rm (d + 1)).locals := by
    constructor
    · show d + 1 + 1 ≤ d + 1 + 1
      omega
    · show 8 + (M'.2.2.1 + 11) + 60 * (d + 1) ≤ 60 * (d + 1 + 1)
      omega
  have hGc : GoodIn jm_tgd (Cond.code y cc' M'.2.2.1 ret' :: jm_tgd) := fun w h => (List.mem_cons.mp h).elim (fun e => by rw [e]; exact jm_gin hcode rfl) (jm_gtt w)
  have hlen : (as.map (jm_cv α)).length = na := by rw [List.length_map]; exact hna
  have h8' : 2 * (F0 m pc ls ((as.map (jm_cv α)).reverse ++ .ref (α k r) :: st.map (jm_cv α))).monitorRoom + ((st.map (jm_cv α)).map fun v => v.category).sum ≤ 8 := lv_room (by rw [jm_cats_sum]; exact h8)
  rcases hlink with hlink | ⟨host, hlink⟩
  · have hG : GoodIn jm_tgd (wsV (jm_cn M.1) ix y.cls y (Cond.code y cc' M'.2.2.1 ret' :: jm_tgd)) := by
      intro w hw
      unfold wsV at hw
      rcases List.mem_append.mp hw with hw | hw
      · simp only [List.mem_cons, List.not_mem_nil, or_false] at hw
        rcases hw with rfl | rfl | rfl | rfl
        · exact jm_gin hlink rfl
        · exact jm_gin hins rfl
        · exact jm_gin hsel rfl
        · exact jm_gin hini rfl
      · exact hGc w hw
    exact jm_rcall hA hH (va_runV ⟨hx, hb, hml, hown, hts⟩ hMet (cwV na hts hG rfl rfl rfl ⟨rfl, hmh.1, hmh.2, hpd⟩ hR) hpre rfl hlen hsz rfl h8' hd ⟨Nat.le_refl _, Nat.le_refl _⟩) kk
  · exact jm_rcall hA hH (va_runVN ⟨hx, hb, hml, hown, hts⟩ hMet ⟨va_cnB na hts hGc rfl rfl rfl (hN _ hlink rfl) (hts _ (jm_tgd_mem hini rfl)) ⟨hmh.1, hmh.2, hpd⟩ hR, hts _ (jm_tgd_mem hins rfl), hts _ (jm_tgd_mem hsel rfl)⟩ hpre rfl hlen hsz rfl h8' hd ⟨Nat.le_refl _, Nat.le_refl _⟩) kk
theorem jm_rcs (hMn : jm_Metn l α cy D n) (X : jm_X α cy D A M cc ret p s m args meth c) (hH : jm_H α cy D A s σ H locs) {M' : jm_M} {as st : List jm_V} {na : Nat} (hlk : jm_lk2 jm_csL M.1 ix = some (M', na)) (hna : as.length = na) (hoks : jm_oks as) (hcat : jm_cats as ≤ M'.2.2.1) (h8 : jm_cats st ≤ 8) (hrun : jm_run n d (jm_en M' as σ) = some (r1, σ1)) (hsz : ls.size = M.2.2.1) (hd : decode cc pc = .ok (.invokestatic ix, 3))
    (kk : ∀ (H1 : Heap) (locs1 : List Loc), jm_H α cy D A s σ1 H1 locs1 → jm_oko r1 → W p l e (jm_rm (d + 1)) s m args below meth c H1 locs1 0 0 Q (F0 m (pc + 3) ls ((r1.map (jm_cv α)).toList ++ st.map (jm_cv α)))) : W p l e (jm_rm (d + 1)) s m args below meth c H locs 0 0 Q (F0 m pc ls ((as.map (jm_cv α)).reverse ++ st.map (jm_cv α))) := by
  have X0 := X
  obtain ⟨hx, hb, hml, hown, hts, hN, hK, hZ, hA, hr, hlocks⟩ := X
  obtain ⟨y, cc', ret', hM', hpd, hst, hini, hlink⟩ := jm_csk _ (jm_lk2_mem hlk)
  dsimp only at hM' hpd hlink
  have hMet := hMn d M' y cc' ret' hM' as σ r1 σ1 hoks hcat hrun H.size
  obtain ⟨-, -, hcode, hcls, hpl, h20, hmh⟩ := hM'
  have hbl := jm_blind α cy D H.size σ (as.map (jm_cv α))
  have hpre : PreS s H (va_Pc (as.map (jm_cv α)) (jm_Pw α cy D H.size σ)) (as.map (jm_cv α)) := ⟨hbl, fun U hU hW => ⟨rfl, jm_pw X0 hH hU hW⟩⟩
  have hR : (jm_rm d).frames + 1 ≤ (jm_rm (d + 1)).frames ∧ 8 + (M'.2.2.1 + 11) + (jm_rm d).locals ≤ (jm_rm (d + 1)).locals := by
    constructor
    · show d + 1 + 1 ≤ d + 1 + 1
      omega
    · show 8 + (M'.2.2.1 + 11) + 60 * (d + 1) ≤ 60 * (d + 1 + 1)
      omega
  have hGc : GoodIn jm_tgd (Cond.code y cc' M'.2.2.1 ret' :: jm_tgd) := fun w h => (List.mem_cons.mp h).elim (fun e => by rw [e]; exact jm_gin hcode rfl) (jm_gtt w)
  have hlen : (as.map (jm_cv α)).length = na := by rw [List.length_map]; exact hna
  have h8' : 2 * (F0 m pc ls ((as.map (jm_cv α)).reverse ++ st.map (jm_cv α))).monitorRoom + ((st.map (jm_cv α)).map fun v => v.category).sum ≤ 8 := lv_room (by rw [jm_cats_sum]; exact h8)
  have hG : GoodIn jm_tgd (va_wsS (jm_cn M.1) ix y (Cond.code y cc' M'.2.2.1 ret' :: jm_tgd)) := by
    intro w hw
    unfold va_wsS at hw
    rcases List.mem_append.mp hw with hw | hw
    · simp only [List.mem_cons, List.not_mem_nil, or_false] at hw
      rcases hw with rfl | rfl | rfl
      · exact jm_gin hlink rfl
      · exact jm_gin hst rfl
      · exact jm_gin hini rfl
    · exact hGc w hw
  exact jm_rcall hA hH (va_runS ⟨hx, hb, hml, hown, hts⟩ hMet (va_cwS na hts hG rfl rfl rfl ⟨hmh.1, hmh.2, hpd⟩ hR) hpre rfl hlen hsz rfl h8' hd ⟨Nat.le_refl _, Nat.le_refl _⟩) kk
end JC
