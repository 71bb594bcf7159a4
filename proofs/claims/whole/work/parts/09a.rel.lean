-- THE RELATION: an abstract state, and how the class and the reference hold it
def okS (S : sS) : Prop := S.1 ≤ 6 ∧ (S.1 = 0 ∨ 2 ≤ S.1) ∧ (0 ≤ S.2.1.toInt ∧ S.2.1.toInt ≤ 200) ∧ ∀ d, d < S.1 → (1 ≤ (S.2.2 0 d).toInt ∧ (S.2.2 0 d).toInt ≤ 5) ∧ (0 ≤ (S.2.2 1 d).toInt ∧ (S.2.2 1 d).toInt ≤ 40) ∧ (0 ≤ (S.2.2 2 d).toInt ∧ (S.2.2 2 d).toInt ≤ 9) ∧ (1 ≤ (S.2.2 3 d).toInt ∧ (S.2.2 3 d).toInt ≤ 5)
theorem okS.K {S : sS} (h : okS S) : okK S := ⟨h.1, fun d hd => (h.2.2.2 d hd).2.2.2.2⟩
/-- S' is S behind an act; (w, o, b): how it is undone -/
def unR (w o b : Int32) (S' S : sS) : Prop := S'.1 = S.1 ∧
  ((w = 4 ∧ b = S.2.1 ∧ ∀ v, v < 4 → ∀ d, d < S.1 → S.2.2 v d = S'.2.2 v d) ∨
   (w = 5 ∧ S'.2.1 = S.2.1 ∧ ∃ i j : Nat, i < S.1 ∧ j < S.1 ∧ i ≠ j ∧ o = nI i ∧ b = nI j ∧ ∀ v, v < 4 → ∀ d, d < S.1 → S.2.2 v d = S'.2.2 v (if d = i then j else if d = j then i else d)) ∨
   (∃ u i : Nat, u < 4 ∧ i < S.1 ∧ w = nI u ∧ o = nI i ∧ S'.2.1 = S.2.1 ∧ b = S.2.2 u i ∧ ∀ v, v < 4 → ∀ d, d < S.1 → ¬ (v = u ∧ d = i) → S.2.2 v d = S'.2.2 v d))
/-- rows; tape; shaft; how many acts, the shafts before them; images; trace; latest fault; finding -/
abbrev aS : Type := ((Nat → Option (Nat × Nat)) × (Nat → Nat → Int32)) × (Nat × (Nat → Int32)) × sS × (Nat × (Nat → sS)) × (Nat → Option sS) × (Nat × (Nat → Int32)) × Int32 × Int32
abbrev aRw (A : aS) := A.1.1
abbrev aIt (A : aS) := A.1.2
abbrev aTp (A : aS) := A.2.1
abbrev aSh (A : aS) := A.2.2.1
abbrev aAc (A : aS) := A.2.2.2.1
abbrev aIm (A : aS) := A.2.2.2.2.1
abbrev aTr (A : aS) := A.2.2.2.2.2.1
abbrev aFt (A : aS) := A.2.2.2.2.2.2.1
abbrev aFd (A : aS) := A.2.2.2.2.2.2.2
def okA (A : aS) : Prop := (∀ r, r < 8 → ∀ q, aRw A r = some q → q.1 ≤ 2 ∧ q.2 ≤ 40) ∧ ((aTp A).1 ≤ 80 ∧ ∀ j, j < (aTp A).1 → 0 ≤ ((aTp A).2 j).toInt ∧ ((aTp A).2 j).toInt ≤ 255) ∧ okS (aSh A) ∧ ((aAc A).1 ≤ 24 ∧ (aAc A).2 (aAc A).1 = aSh A ∧ ∀ i, i < (aAc A).1 → okS ((aAc A).2 i) ∧ ((aAc A).2 i).1 = (aSh A).1) ∧ (∀ k, k < 2 → ∀ T, aIm A k = some T → okS T ∧ 2 ≤ T.1) ∧ (aTr A).1 ≤ 16
def cRw (ln sz : Nat → Int32) (im : Nat → Nat → Int32) (A : aS) : Prop := ∀ r, r < 8 → (match aRw A r with
  | none => sz r = -1
  | some q => sz r = nI q.2 ∧ ln r = nI q.1) ∧ ∀ i, i < 40 → im r i = aIt A r i
def cTp (rd tp : Nat → Int32) (A : aS) : Prop := rd 1 = nI (aTp A).1 ∧ ∀ j, j < (aTp A).1 → tp j = (aTp A).2 j
def cAc (ac w o b : Nat → Int32) (A : aS) : Prop := ac 3 = nI (aAc A).1 ∧ ∀ i, i < (aAc A).1 → unR (w i) (o i) (b i) ((aAc A).2 (i + 1)) ((aAc A).2 i)
def cIm (σ : jm_S) (A : aS) : Prop := ∀ k, k < 2 → match aIm A k with
  | none => σ.1 7 (2 + k) 1 = 0
  | some T => cS σ (2 + k) T
def cTr (sd tr : Nat → Int32) (A : aS) : Prop := sd 11 = nI (aTr A).1 ∧ ∀ j, j < (aTr A).1 → tr j = (aTr A).2 j
def cRel (σ : jm_S) (A : aS) : Prop := cRw (σ.1 1 0) (σ.1 2 0) (σ.1 4) A ∧ cTp (σ.1 5 0) (σ.1 6 0) A ∧ cS σ 0 (aSh A) ∧ cAc (σ.1 10 0) (σ.1 11 0) (σ.1 12 0) (σ.1 13 0) A ∧ cIm σ A ∧ cTr (σ.1 0 0) (σ.1 20 0) A ∧ σ.1 0 0 12 = aFt A ∧ σ.1 0 0 13 = aFd A
def rRw (ln mn im : Nat → Int32) (A : aS) : Prop := ∀ r, r < 8 → (match aRw A r with
  | none => ln r = -1
  | some q => mn r = nI q.2 ∧ ln r = nI q.1) ∧ ∀ i, i < 40 → im (40 * r + i) = aIt A r i
def rTp (rm tp : Nat → Int32) (A : aS) : Prop := rm 11 = nI (aTp A).1 ∧ ∀ j, j < (aTp A).1 → tp j = (aTp A).2 j
def rAc (rm ws : Nat → Int32) (A : aS) : Prop := rm 9 = nI (aAc A).1 ∧ ∀ i, i < (aAc A).1 → rS (fun j => ws (26 * i + j)) ((aAc A).2 i)
def rIm (ik kp : Nat → Int32) (A : aS) : Prop := ∀ k, k < 2 → match aIm A k with
  | none => ik k = 0
  | some T => ik k = 1 ∧ rS (fun j => kp (26 * k + j)) T
def rTr (rm tr : Nat → Int32) (A : aS) : Prop := rm 25 = nI (aTr A).1 ∧ ∀ j, j < (aTr A).1 → tr j = (aTr A).2 j
def rRel (σ : jm_S) (A : aS) : Prop := rRw (σ.1 22 0) (σ.1 23 0) (σ.1 24 0) A ∧ rTp (σ.1 21 0) (σ.1 27 0) A ∧ rS (σ.1 25 0) (aSh A) ∧ rAc (σ.1 21 0) (σ.1 26 0) A ∧ rIm (σ.1 30 0) (σ.1 31 0) A ∧ rTr (σ.1 21 0) (σ.1 32 0) A ∧ σ.1 21 0 18 = aFt A ∧ σ.1 21 0 1 = aFd A
-- frames
abbrev Ccl : Nat → Nat → Bool := fun k _ => Nat.blt k 21
abbrev Crf : Nat → Nat → Bool := fun k _ => Nat.ble 21 k
abbrev Csc : Nat → Nat → Bool := fun k r => k == 14 || k == 15 || k == 16 || k == 17 || k == 18 || k == 19 || (k == 7 && r == 1) || (k == 9 && (Nat.ble 4 r && Nat.blt r 8))
abbrev Crs : Nat → Nat → Bool := fun k r => k == 21 || k == 28 || k == 29 || (k == 25 && (r == 1 || r == 2))
/-- transfer of the class's picture: all its cells unchanged -/
theorem cRel.ag {σ σ' : jm_S} {A : aS} {C : Nat → Nat → Bool} (h : cRel σ A) (ha : jm_ag C σ σ') (c0 : C 0 0 = false) (c1 : C 1 0 = false) (c2 : C 2 0 = false) (c4 : ∀ r, C 4 r = false) (c5 : C 5 0 = false) (c6 : C 6 0 = false) (c70 : C 7 0 = false) (c72 : C 7 2 = false) (c73 : C 7 3 = false) (c9 : ∀ r, r < 4 → C 9 r = false) (c9' : ∀ r, 8 ≤ r → C 9 r = false) (c10 : C 10 0 = false) (c11 : C 11 0 = false) (c12 : C 12 0 = false) (c13 : C 13 0 = false) (c20 : C 20 0 = false) : cRel σ' A := by
  obtain ⟨h1, h2, h3, h4, h5, h6, h7, h8⟩ := h
  have e4 : σ'.1 4 = σ.1 4 := funext fun r => (ha 4 r (c4 r)).1
  refine ⟨?_, ?_, ?_, ?_, ?_, ?_, ?_, ?_⟩
  · rw [(ha 1 0 c1).1, (ha 2 0 c2).1, e4]; exact h1
  · rw [(ha 5 0 c5).1, (ha 6 0 c6).1]; exact h2
  · exact cS_ag h3 ha c70 (fun w hw => c9 _ (by omega))
  · rw [(ha 10 0 c10).1, (ha 11 0 c11).1, (ha 12 0 c12).1, (ha 13 0 c13).1]; exact h4
  · intro k hk
    have h9 := h5 k hk
    have c7k : C 7 (2 + k) = false := by
      rcases (show k = 0 ∨ k = 1 by omega) with rfl | rfl
      · exact c72
      · exact c73
    cases hi : aIm A k with
    | none => rw [hi] at h9; show σ'.1 7 (2 + k) 1 = 0; rw [(ha 7 _ c7k).1]; exact h9
    | some T => rw [hi] at h9; exact cS_ag h9 ha c7k (fun w hw => c9' _ (by omega))
  · rw [(ha 0 0 c0).1, (ha 20 0 c20).1]; exact h6
  · rw [(ha 0 0 c0).1]; exact h7
  · rw [(ha 0 0 c0).1]; exact h8
theorem cRel.sc {σ σ' : jm_S} {A : aS} (h : cRel σ A) (ha : jm_ag Csc σ σ') : cRel σ' A :=
  h.ag ha rfl rfl rfl (fun _ => rfl) rfl rfl rfl rfl rfl (fun r hr => by
    have : Nat.ble 4 r = false := by cases hb : Nat.ble 4 r with | false => rfl | true => exact absurd (Nat.le_of_ble_eq_true hb) (by omega)
    simp [Csc, this]) (fun r hr => by
    have : Nat.blt r 8 = false := by cases hb : Nat.blt r 8 with | false => rfl | true => exact absurd (Nat.le_of_ble_eq_true hb) (by omega)
    simp [Csc, this]) rfl rfl rfl rfl rfl
theorem cRel.fr {σ σ' : jm_S} {A : aS} (h : cRel σ A) (ha : jm_ag Crf σ σ') : cRel σ' A :=
  h.ag ha rfl rfl rfl (fun _ => rfl) rfl rfl rfl rfl rfl (fun _ _ => rfl) (fun _ _ => rfl) rfl rfl rfl rfl rfl
theorem rRel.ag {σ σ' : jm_S} {A : aS} {C : Nat → Nat → Bool} (h : rRel σ A) (ha : jm_ag C σ σ') (hf : ∀ j, j = 1 ∨ j = 9 ∨ j = 11 ∨ j = 18 ∨ j = 25 → σ'.1 21 0 j = σ.1 21 0 j) (c22 : C 22 0 = false) (c23 : C 23 0 = false) (c24 : C 24 0 = false) (c25 : C 25 0 = false) (c26 : C 26 0 = false) (c27 : C 27 0 = false) (c30 : C 30 0 = false) (c31 : C 31 0 = false) (c32 : C 32 0 = false) : rRel σ' A := by
  obtain ⟨h1, h2, h3, h4, h5, h6, h7, h8⟩ := h
  refine ⟨?_, ?_, ?_, ?_, ?_, ?_, ?_, ?_⟩
  · rw [(ha 22 0 c22).1, (ha 23 0 c23).1, (ha 24 0 c24).1]; exact h1
  · rw [(ha 27 0 c27).1]; exact ⟨(hf 11 (by simp)).trans h2.1, h2.2⟩
  · rw [(ha 25 0 c25).1]; exact h3
  · rw [(ha 26 0 c26).1]; exact ⟨(hf 9 (by simp)).trans h4.1, h4.2⟩
  · rw [(ha 30 0 c30).1, (ha 31 0 c31).1]; exact h5
  · rw [(ha 32 0 c32).1]; exact ⟨(hf 25 (by simp)).trans h6.1, h6.2⟩
  · exact (hf 18 (by simp)).trans h7
  · exact (hf 1 (by simp)).trans h8
theorem rRel.sc {σ σ' : jm_S} {A : aS} (h : rRel σ A) (ha : jm_ag Crs σ σ') (hf : ∀ j, j = 1 ∨ j = 9 ∨ j = 11 ∨ j = 18 ∨ j = 25 → σ'.1 21 0 j = σ.1 21 0 j) : rRel σ' A :=
  h.ag ha hf rfl rfl rfl rfl rfl rfl rfl rfl rfl
theorem rRel.fr {σ σ' : jm_S} {A : aS} (h : rRel σ A) (ha : jm_ag Ccl σ σ') : rRel σ' A :=
  h.ag ha (fun j _ => by rw [(ha 21 0 rfl).1]) rfl rfl rfl rfl rfl rfl rfl rfl rfl
/-- the latest finding -/
def aFdW (A : aS) (x : Int32) : aS := (A.1, A.2.1, A.2.2.1, A.2.2.2.1, A.2.2.2.2.1, A.2.2.2.2.2.1, A.2.2.2.2.2.2.1, x)
theorem okA.fd {A : aS} (h : okA A) (x : Int32) : okA (aFdW A x) := h
theorem cRel.fd {σ : jm_S} {A : aS} (h : cRel σ A) (x : Int32) : cRel (jm_wi σ 0 0 13 x) (aFdW A x) := ⟨h.1, h.2.1, h.2.2.1, h.2.2.2.1, h.2.2.2.2.1, h.2.2.2.2.2.1, h.2.2.2.2.2.2.1, rfl⟩
theorem rRel.fd {σ : jm_S} {A : aS} (h : rRel σ A) (x : Int32) : rRel (jm_wi σ 21 0 1 x) (aFdW A x) := ⟨h.1, h.2.1, h.2.2.1, h.2.2.2.1, h.2.2.2.2.1, h.2.2.2.2.2.1, h.2.2.2.2.2.2.1, rfl⟩
/-- thrown is nobody's -/
theorem rRel.th {σ : jm_S} {A : aS} (h : rRel σ A) (x : Int32) : rRel (jm_wi σ 21 0 0 x) A := h
theorem rRel.ov {σ : jm_S} {A : aS} (h : rRel σ A) (x : Int32) : rRel (jm_wi σ 21 0 19 x) A := h
/-- both answer alike, and hold the same state behind it -/
def Pair (A : aS) (c r : jm_M) (as : List jm_V) : Prop := ∃ (v : jm_V) (A' : aS), okA A' ∧ (∀ σ, cRel σ A → ∃ σ1, jm_call 60 c (jm_R 0 0 :: as) σ = some (some v, σ1) ∧ cRel σ1 A' ∧ jm_ag Ccl σ σ1) ∧ (∀ σ, rRel σ A → ∃ σ1, jm_call 60 r (jm_R 21 0 :: as) σ = some (some v, σ1) ∧ rRel σ1 A' ∧ jm_ag Crf σ σ1)
