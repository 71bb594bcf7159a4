-- CONSTRUCTORS: new int[N][K], out of the machine's own words for the instruction
def gO (c : ClassId) (N h i : Nat) : Cell := arrV c N (fun j => va_rf (if j < i then some (h + 1 + j) else none))
def gI (c : ClassId) (K : Nat) : Cell := arrV c K (fun _ => .int 0)
def gS (s : State) (c ci : ClassId) (N K : Nat) : Nat → State
  | 0 => s.pushCell (gO c N s.heap.size 0)
  | i + 1 => ((gS s c ci N K i).pushCell (gI ci K)).setCell s.heap.size (gO c N s.heap.size (i + 1))
theorem gO_0 (c : ClassId) (N h : Nat) : gO c N h 0 = arrV c N (fun _ => .null) := congrArg (arrV c N) (funext fun j => by rw [if_neg (Nat.not_lt_zero j)]; rfl)
theorem gO_s (c : ClassId) (N h i : Nat) : (gO c N h i).setSlot i (.ref (h + 1 + i)) = gO c N h (i + 1) := by
  unfold gO
  rw [arrV_store]
  refine congrArg (arrV c N) (funext fun j => ?_)
  unfold updV
  by_cases e : j = i
  · rw [if_pos e, if_pos (show j < i + 1 by omega), e]; rfl
  · rw [if_neg e]
    show va_rf (if j < i then some (h + 1 + j) else none) = _
    by_cases h : j < i
    · rw [if_pos h, if_pos (by omega)]
    · rw [if_neg h, if_neg (by omega)]
theorem gS_f (s : State) (c ci : ClassId) (N K : Nat) : ∀ i, (gS s c ci N K i).heap.size = s.heap.size + 1 + i ∧ (gS s c ci N K i).heap[s.heap.size]? = some (gO c N s.heap.size i) ∧ (gS s c ci N K i).vm = s.vm ∧ (gS s c ci N K i).slotsUsed = s.slotsUsed + N + i * K ∧ (∀ x : Nat, x < s.heap.size → (gS s c ci N K i).heap[x]? = s.heap[x]?) ∧ ∀ j : Nat, j < i → (gS s c ci N K i).heap[s.heap.size + 1 + j]? = some (gI ci K)
  | 0 => ⟨by simp [gS], by simp [gS], rfl, by simp [gS, gO, arrV_size], fun x hx => State.heap_pushCell_of_lt _ _ hx, fun j hj => absurd hj (Nat.not_lt_zero j)⟩
  | i + 1 => by
    obtain ⟨a1, a2, a3, a4, a5, a6⟩ := gS_f s c ci N K i
    have hlt : s.heap.size < (gS s c ci N K i).heap.size := by omega
    have hb : ((gS s c ci N K i).pushCell (gI ci K)).heap[s.heap.size]? = some (gO c N s.heap.size i) := by rw [State.heap_pushCell_of_lt (h := hlt)]; exact a2
    refine ⟨?_, State.heap_setCell_self hb, by simp [gS, a3], ?_, fun x hx => ?_, fun j hj => ?_⟩
    · simp [gS, State.setCell, a1]; omega
    · have e1 : (gI ci K).slots.size = K := arrV_size _ _ _
      simp [gS, a4, e1, Nat.succ_mul]; omega
    · show (((gS s c ci N K i).pushCell (gI ci K)).setCell s.heap.size _).heap[x]? = _
      rw [State.heap_setCell_other (Nat.ne_of_gt hx), State.heap_pushCell_of_lt (h := Nat.lt_trans hx hlt)]
      exact a5 x hx
    · show (((gS s c ci N K i).pushCell (gI ci K)).setCell s.heap.size _).heap[s.heap.size + 1 + j]? = _
      rw [State.heap_setCell_other (show s.heap.size ≠ s.heap.size + 1 + j by omega)]
      by_cases h : j < i
      · rw [State.heap_pushCell_of_lt (h := show s.heap.size + 1 + j < (gS s c ci N K i).heap.size by omega)]; exact a6 j h
      · rw [show s.heap.size + 1 + j = (gS s c ci N K i).heap.size by omega]
        exact State.heap_pushCell_size _ _
theorem gS_top (s : State) (f : JFrame) (c ci : ClassId) (N K : Nat) : ∀ i, gS (s.setTop f) c ci N K i = (gS s c ci N K i).setTop f
  | 0 => rfl
  | i + 1 => by simp only [gS, gS_top s f c ci N K i, State.heap_setTop, State.pushCell_setTop, State.setCell_setTop]
section GR
variable {E : CtlPost} {e : Env} {d : Bool} {acts : List Action} {s : State}
theorem g_new {c comp : ClassId} {k : Class} {ty : FieldType} {len : Nat} {v : Value} (hk : s.vm.classes[c]? = some k) (hkd : k.kind = .array comp ty) (hl : ¬ len > e.platform.arrayLengthLimit) (hh : ¬ len * componentBytes ty > e.platform.maxHeapBytes) (hf : fits ty v = true) (hd : v.isDefault = true) (h1 : s.heap.size < e.platform.maxCells) (h2 : s.slotsUsed + len ≤ e.platform.maxSlots) {Q : Addr → Pre} (hq : Q s.heap.size d acts (s.pushCell (arrV c len fun _ => v))) : wp (Jvm.newArray c len v) Q E e d acts s := by
  have hfit : ∀ i w, (Array.replicate len v)[i]? = some w → s.fitsSlot c .none i w = true := by
    intro i w hw
    rw [Array.getElem?_replicate] at hw
    split at hw
    · cases hw; simp [State.fitsSlot, State.slotType?, hk, hkd, hf]
    · cases hw
  have hact : allocActs (Array.replicate len v) s.heap.size acts = acts := by
    unfold allocActs
    rw [if_pos (by rw [Array.all_replicate]; split <;> simp [hd])]
  rw [← arrV_new] at hq
  simp only [Jvm.newArray, Jvm.arrayFits, wp_bind', W.ask, W.ite, hl, if_false, wp_pure', W.theClass, hk, hkd, hh, W.alloc, W.stop, Option.some.injEq, exists_eq_left', Array.size_replicate, hact]
  rw [if_neg (by omega)]
  exact ⟨h1, h2, hfit, hq⟩
theorem g_row {ci cc : ClassId} {kc : Class} {m : Int32} (hkc : s.vm.classes[ci]? = some kc) (hkd : kc.kind = .array cc .int) (hm : ¬ m < 0) (hl : ¬ m.toNatClampNeg > e.platform.arrayLengthLimit) (hh : ¬ m.toNatClampNeg * componentBytes .int > e.platform.maxHeapBytes) (h1 : s.heap.size < e.platform.maxCells) (h2 : s.slotsUsed + m.toNatClampNeg ≤ e.platform.maxSlots) {Q : Addr → Pre} (hq : Q s.heap.size d acts (s.pushCell (gI ci m.toNatClampNeg))) : wp (multianewarray.make ci [m]) Q E e d acts s := by
  rw [multianewarray.make]
  simp only [wp_bind', W.ite, hm, if_false, wp_pure', W.theClass, hkc, hkd, Option.some.injEq, exists_eq_left']
  exact g_new hkc hkd hl hh rfl rfl h1 h2 hq
theorem g_make {c ci cc : ClassId} {k kc : Class} {n m : Int32} (hk : s.vm.classes[c]? = some k) (hkd : k.kind = .array ci (.array .int)) (hkc : s.vm.classes[ci]? = some kc) (hkdc : kc.kind = .array cc .int) (hn : ¬ n < 0) (hm : ¬ m < 0)
    (hl1 : ¬ n.toNatClampNeg > e.platform.arrayLengthLimit) (hh1 : ¬ n.toNatClampNeg * componentBytes (.array .int) > e.platform.maxHeapBytes) (hl2 : ¬ m.toNatClampNeg > e.platform.arrayLengthLimit) (hh2 : ¬ m.toNatClampNeg * componentBytes .int > e.platform.maxHeapBytes)
    (hc : s.heap.size + 1 + n.toNatClampNeg ≤ e.platform.maxCells) (hs : s.slotsUsed + n.toNatClampNeg + n.toNatClampNeg * m.toNatClampNeg ≤ e.platform.maxSlots) {Q : Addr → Pre} (hq : ∀ d' acts', Q s.heap.size d' acts' (gS s c ci n.toNatClampNeg m.toNatClampNeg n.toNatClampNeg)) : wp (multianewarray.make c [n, m]) Q E e d acts s := by
  rw [multianewarray.make]
  simp only [wp_bind', W.ite, hn, if_false, wp_pure', W.theClass, hk, hkd, Option.some.injEq, exists_eq_left']
  refine g_new hk hkd hl1 hh1 rfl rfl (by omega) (by have := Nat.zero_le (n.toNatClampNeg * m.toNatClampNeg); omega) ?_
  simp only [show ([m].find? (· < 0)) = none by simp [hm]]
  rw [ite_self, wp_bind', Std.Legacy.Range.forIn_eq_forIn_range', show ([:n.toNatClampNeg] : Std.Legacy.Range).size = n.toNatClampNeg by simp [Std.Legacy.Range.size], ← gO_0 c n.toNatClampNeg s.heap.size]
  show wp (forIn (List.range' 0 n.toNatClampNeg 1) PUnit.unit _) _ E e d acts _
  refine wp_forIn_inv (fun todo u => ∃ i, i + todo.length = n.toNatClampNeg ∧ todo = List.range' i todo.length ∧ u = gS s c ci n.toNatClampNeg m.toNatClampNeg i) _ _ ⟨0, by simp, by simp, rfl⟩ ?_ ?_
  · rintro x todo u d' acts' Q' ⟨i, hi, hl, rfl⟩ next
    have hi : i + (todo.length + 1) = n.toNatClampNeg := hi
    have hl : x :: todo = List.range' i (todo.length + 1) := hl
    rw [List.range'_succ] at hl
    obtain ⟨rfl, ht⟩ := List.cons.inj hl
    obtain ⟨f1, f2, f3, f4, -, -⟩ := gS_f s c ci n.toNatClampNeg m.toNatClampNeg x
    have hmul : (x + 1) * m.toNatClampNeg ≤ n.toNatClampNeg * m.toNatClampNeg := Nat.mul_le_mul_right _ (by omega)
    rw [Nat.succ_mul] at hmul
    have hlt : s.heap.size < (gS s c ci n.toNatClampNeg m.toNatClampNeg x).heap.size := by omega
    simp only [wp_bind']
    refine g_row (by rw [f3]; exact hkc) hkdc hm hl2 hh2 (by omega) (by omega) ?_
    simp only [wp_bind', W.writeLoc, wp_pure']
    refine ⟨gO c n.toNatClampNeg s.heap.size x, by rw [State.heap_pushCell_of_lt (h := hlt)]; exact f2, by simp [gO, arrV], by unfold gO; rw [arrV_size]; omega, ?_, next _ _ _ ⟨x + 1, by omega, ht, ?_⟩⟩
    · show State.fitsSlot _ c .none x _ = true
      simp [State.fitsSlot, State.slotType?, f3, hk, hkd, fits]
    · show ((gS s c ci n.toNatClampNeg m.toNatClampNeg x).pushCell _).setCell s.heap.size _ = ((gS s c ci n.toNatClampNeg m.toNatClampNeg x).pushCell _).setCell s.heap.size _
      rw [f1, gO_s]
  · rintro u d' acts' ⟨i, hi, -, rfl⟩
    have hi : i = n.toNatClampNeg := hi
    subst hi
    simp only [wp_pure']
    exact hq _ _
end GR
abbrev gL (cy : jm_C) (q N K : Nat) : va_W := (q, .inl (cy.2.2.2, N, .inr (.inr (.inr (.inr (fun i => if i < N then some (q + 1 + i) else none)))))) :: (List.range N).map (fun i => (q + 1 + i, .inl (cy.1, K, .inl (fun _ => 0))))
theorem gL_at {cy : jm_C} {q N K t : Nat} {x : Nat × va_E} (h : (gL cy q N K)[t]? = some x) : x.1 = q + t ∧ t < N + 1 ∧ (t = 0 → x = (q, .inl (cy.2.2.2, N, .inr (.inr (.inr (.inr (fun i => if i < N then some (q + 1 + i) else none))))))) ∧ ∀ j, t = j + 1 → x = (q + 1 + j, .inl (cy.1, K, .inl (fun _ => 0))) := by
  cases t with
  | zero => cases h; exact ⟨rfl, by omega, fun _ => rfl, fun j hj => absurd hj (by omega)⟩
  | succ t =>
    have h : ((List.range N).map (fun i => ((q + 1 + i, .inl (cy.1, K, .inl (fun _ => 0))) : Nat × va_E)))[t]? = some x := h
    rw [List.getElem?_map] at h
    by_cases ht : t < N
    · rw [List.getElem?_range ht] at h
      cases h
      exact ⟨by show q + 1 + t = q + (t + 1); omega, by omega, fun h9 => absurd h9 (by omega), fun j hj => by rw [show j = t by omega]⟩
    · rw [List.getElem?_eq_none (by rw [List.length_range]; omega)] at h
      cases h
section GW
variable {p : Program} {l : Launch} {e : Env} {R : Room} {s : State} {m : MethodId} {args : Array Value} {below : List Frame} {meth : Method} {c : Code} {H : Heap} {locs : List Loc} {cells slots : Nat} {Q : State → Prop} {cc : ByteArray} {pc : Nat} {ls : Array Slot} {rest : List Value} {D : va_G} {A : Nat → Prop} {ws : va_W} {H0 : Heap}
theorem va_mn2 {cy : jm_C} (hexec : p.tables.exec = Jvm.exec) (hb : c.code = cc) {own : String} {index : Nat} (hown : s.vm.findClass own = some m.cls) (hclink : (Cond.classLink own index "[[I").before args s = true) (hG : jm_gr cy s) (hK : va_K D vwCl (jm_tys cy) s) (hP : va_P D vwCl ws H) (hD : va_D A ws) (hS : va_S A H0 H locs) (hA : ∀ q, H0.size ≤ q → A q) {n k : Int32} {N K : Nat} (hn : ¬ n < 0) (hk : ¬ k < 0) (hN : n.toNatClampNeg = N) (hM : k.toNatClampNeg = K) (hb1 : N ≤ 1000) (hb2 : K ≤ 1000) (hcells : cells + (1 + N) ≤ R.cells) (hslots : slots + (N + N * K) ≤ R.slots) (hdg : decode cc pc = .ok (.multianewarray index 2, 4))
    (kk : ∀ (q : Nat) (H1 : Heap), va_P D vwCl (ws ++ gL cy q N K) H1 → va_D A (ws ++ gL cy q N K) → va_S A H0 H1 locs → W p l e R s m args below meth c H1 locs (cells + 1 + N) (slots + N + N * K) Q (F0 m (pc + 4) ls (.ref q :: rest))) : W p l e R s m args below meth c H locs cells slots Q (F0 m pc ls (.int k :: .int n :: rest)) := by
  intro T hT X
  subst hb
  have hpl : e.platform.magicAccessors = ({} : Platform).magicAccessors := by rw [X.admits.platform]
  obtain ⟨kA, hkA, hkdA⟩ := hG
  obtain ⟨hArr, hRA⟩ := hK.2 0 (cy.1, .int) rfl
  obtain ⟨-, kC, hkC, cq, hkdC⟩ := hArr 0 (fun _ => .null)
  have hname : s.vm.findClass "[[I" = some cy.2.2.2 := (hK.2 3 (cy.2.2.2, .array .int) rfl).2
  obtain ⟨c0, hfc0, hcl⟩ := Cond.classLink_spec hown hclink e.platform hpl
  have ec : c0 = cy.2.2.2 := Option.some.inj (hfc0.symm.trans hname)
  subst ec
  obtain ⟨hg₁, hwarm₁, -⟩ := State.classEntry (e := e) X.warmed hcl
  generalize T.vm.noted m.cls index (.cls cy.2.2.2) = vm₁ at hg₁ hwarm₁
  obtain ⟨kA₁, hkA₁, heA⟩ := hwarm₁.alike.2.2 _ _ hkA
  obtain ⟨kC₁, hkC₁, heC⟩ := hwarm₁.alike.2.2 _ _ hkC
  have hkdA₁ : kA₁.kind = .array cy.1 (.array .int) := by rw [heA]; exact hkdA
  have hkdC₁ : kC₁.kind = .array cq .int := by rw [heC]; exact hkdC
  have X₁ := X.noted hwarm₁
  subst hN
  subst hM
  obtain ⟨hr1, hr2⟩ := X.roomAbove hcells hslots
  have hfill : ∀ i, Stand p l e R s m args below meth c (gS (T.setVm vm₁) cy.2.2.2 cy.1 n.toNatClampNeg k.toNatClampNeg i) locs (cells + 1 + i) (slots + n.toNatClampNeg + i * k.toNatClampNeg) := by
    intro i
    induction i with
    | zero =>
      have h := X₁.pushed (gO cy.2.2.2 n.toNatClampNeg (T.setVm vm₁).heap.size 0)
      have e1 : (gO cy.2.2.2 n.toNatClampNeg (T.setVm vm₁).heap.size 0).slots.size = n.toNatClampNeg := arrV_size _ _ _
      rw [e1] at h
      rw [Nat.zero_mul]
      exact h
    | succ i ih =>
      obtain ⟨f1, f2, -, -, -, -⟩ := gS_f (T.setVm vm₁) cy.2.2.2 cy.1 n.toNatClampNeg k.toNatClampNeg i
      have hlt : (T.setVm vm₁).heap.size < (gS (T.setVm vm₁) cy.2.2.2 cy.1 n.toNatClampNeg k.toNatClampNeg i).heap.size := by omega
      have h := (ih.pushed (gI cy.1 k.toNatClampNeg)).stored (a := (T.setVm vm₁).heap.size) (by rw [State.heap_pushCell_of_lt (h := hlt)]; exact f2) i (.ref ((T.setVm vm₁).heap.size + 1 + i))
      have h := h.dropFresh (fun x hx => by rw [List.mem_singleton.mp hx]; exact X₁.heapGrown)
      have e1 : (gI cy.1 k.toNatClampNeg).slots.size = k.toNatClampNeg := arrV_size _ _ _
      rw [e1, gO_s] at h
      rw [Nat.succ_mul, ← Nat.add_assoc (slots + n.toNatClampNeg)]
      exact h
  have XF := hfill n.toNatClampNeg
  obtain ⟨f1, f2, -, -, f5, f6⟩ := gS_f (T.setVm vm₁) cy.2.2.2 cy.1 n.toNatClampNeg k.toNatClampNeg n.toNatClampNeg
  have hTh : (T.setVm vm₁).heap = H := hT
  rw [hTh] at f1 f2 f5 f6
  generalize hF : gS (T.setVm vm₁) cy.2.2.2 cy.1 n.toNatClampNeg k.toNatClampNeg n.toNatClampNeg = F at XF f1 f2 f5 f6
  have hP1 : va_P D vwCl (ws ++ gL cy H.size n.toNatClampNeg k.toNatClampNeg) F.heap := by
    refine (hP.kept (fun k9 x hx => f5 x.1 ((hP k9 x hx).lt))).app (fun t x hx => ?_)
    obtain ⟨-, h2, h3, h4⟩ := gL_at hx
    cases t with
    | zero => rw [h3 rfl]; exact f2
    | succ j => rw [h4 j rfl]; exact f6 j (by omega)
  have hD1 : va_D A (ws ++ gL cy H.size n.toNatClampNeg k.toNatClampNeg) := by
    have key : ∀ (t : Nat) (x : Nat × va_E), (ws ++ gL cy H.size n.toNatClampNeg k.toNatClampNeg)[t]? = some x → (t < ws.length ∧ ws[t]? = some x ∧ x.1 < H.size) ∨ (ws.length ≤ t ∧ x.1 = H.size + (t - ws.length)) := fun t x hx => by
      by_cases ht : t < ws.length
      · rw [List.getElem?_append_left ht] at hx
        exact Or.inl ⟨ht, hx, (hP t x hx).lt⟩
      · rw [List.getElem?_append_right (by omega)] at hx
        exact Or.inr ⟨by omega, (gL_at hx).1⟩
    refine ⟨fun i j x y hx hy hxy => ?_, fun t x hx => ?_⟩
    · rcases key i x hx with ⟨a1, a2, a3⟩ | ⟨a1, a2⟩
      · rcases key j y hy with ⟨b1, b2, b3⟩ | ⟨b1, b2⟩
        · exact hD.1 i j x y a2 b2 hxy
        · omega
      · rcases key j y hy with ⟨b1, b2, b3⟩ | ⟨b1, b2⟩
        · omega
        · omega
    · rcases key t x hx with ⟨a1, a2, a3⟩ | ⟨a1, a2⟩
      · exact hD.2 t x a2
      · rw [a2]; exact hA _ (Nat.le_trans hS.1 (Nat.le_add_right _ _))
  have hS1 : va_S A H0 F.heap locs := ⟨Nat.le_trans hS.1 (by rw [f1]; omega), fun x h1 h2 => (f5 x (Nat.lt_of_lt_of_le h1 hS.1)).trans (hS.2.1 x h1 h2), hS.2.2⟩
  obtain ⟨t, a1, b1⟩ := kk H.size F.heap hP1 hD1 hS1 F rfl XF
  refine ⟨t, ?_, b1⟩
  have hl1 : ¬ n.toNatClampNeg > e.platform.arrayLengthLimit := by rw [Launch.admits_arrayLengthLimit X.admits]; omega
  have hh1 : ¬ n.toNatClampNeg * componentBytes (.array .int) > e.platform.maxHeapBytes := by
    rw [Launch.admits_maxHeapBytes X.admits]; show ¬ n.toNatClampNeg * 4 > 536870912; omega
  have hl2 : ¬ k.toNatClampNeg > e.platform.arrayLengthLimit := by rw [Launch.admits_arrayLengthLimit X.admits]; omega
  have hh2 : ¬ k.toNatClampNeg * componentBytes .int > e.platform.maxHeapBytes := by
    rw [Launch.admits_maxHeapBytes X.admits]; show ¬ k.toNatClampNeg * 4 > 536870912; omega
  jvm_step X.here [hexec, hdg]
  simp only [multianewarray.sem, wp_bind', W.resolveClassAt_links (State.method?_setTop (F0 m pc ls (.int k :: .int n :: rest)) X.here.top) hg₁]
  rw [W.popN, if_neg (by decide)]
  refine ⟨F0 m pc ls (.int k :: .int n :: rest), State.topJava?_setTop' (s := T.setVm vm₁) _ X.here.top, [.int n, .int k], rest, rfl, rfl, ?_⟩
  simp only [List.mapM_cons, List.mapM_nil, wp_bind', wp_pure']
  refine g_make (k := kA₁) (kc := kC₁) (ci := cy.1) (cc := cq) hkA₁ hkdA₁ hkC₁ hkdC₁ hn hk hl1 hh1 hl2 hh2 (by show T.heap.size + 1 + _ ≤ _; omega) (by show T.slotsUsed + _ + _ ≤ _; omega) (fun d' acts' => ?_)
  have eS : ((T.setTop (F0 m pc ls (.int k :: .int n :: rest))).setVm vm₁).setTop (F0 m pc ls rest) = (T.setVm vm₁).setTop (F0 m pc ls rest) := by
    show ((T.setVm vm₁).setTop _).setTop _ = _
    rw [State.setTop_setTop]
  show wp _ _ _ _ _ _ (gS (((T.setTop (F0 m pc ls (.int k :: .int n :: rest))).setVm vm₁).setTop (F0 m pc ls rest)) cy.2.2.2 cy.1 n.toNatClampNeg k.toNatClampNeg n.toNatClampNeg)
  rw [eS, gS_top, hF]
  simp only [wp_bind', W.mark, W.pushRef, State.topJava?_setTop' _ XF.here.top, Option.some.injEq, exists_eq_left', State.setTop_setTop, State.heap_setTop]
  intro acts
  simp [jvm, XF.here.top]
  rw [hT]
  exact a1
end GW
