/-! tokens of a list of bytes -/
section SXT
variable {B : Nat → Int32} {n p q l u c v : Nat} {L A R : List Nat}
/-- from p on the text is L -/
def TxL (B : Nat → Int32) (n p : Nat) (L : List Nat) : Prop := p + L.length = n ∧ ∀ i c, L[i]? = some c → B (p + i) = nI c ∧ c < 128
theorem TxL.hd (h : TxL B n p (c :: L)) : p < n ∧ B p = nI c ∧ c < 128 := by
  have h1 := h.2 0 c rfl
  have h2 := h.1
  rw [List.length_cons] at h2
  exact ⟨by omega, h1⟩
theorem TxL.tl (h : TxL B n p (c :: L)) : TxL B n (p + 1) L := by
  have h2 := h.1
  rw [List.length_cons] at h2
  refine ⟨by omega, fun i d hi => ?_⟩
  have := h.2 (i + 1) d (by rw [List.getElem?_cons_succ]; exact hi)
  rwa [show p + (i + 1) = p + 1 + i by omega] at this
theorem TxL.app : ∀ {A : List Nat} {p : Nat}, TxL B n p (A ++ L) → TxL B n (p + A.length) L ∧ ∀ i d, A[i]? = some d → B (p + i) = nI d ∧ d < 128
  | [], p, h => ⟨by simpa using h, fun i d hi => by simp at hi⟩
  | a :: A, p, h => by
    have h' : TxL B n p (a :: (A ++ L)) := h
    obtain ⟨g1, g2⟩ := TxL.app h'.tl
    refine ⟨?_, fun i d hi => ?_⟩
    · rw [List.length_cons, show p + (A.length + 1) = p + 1 + A.length by omega]
      exact g1
    · cases i with
      | zero =>
        obtain rfl : a = d := by simpa using hi
        exact h'.hd.2
      | succ i =>
        have := g2 i d (by simpa using hi)
        rwa [show p + 1 + i = p + (i + 1) by omega] at this
theorem inR_n {i : Nat} (h : B i = nI c) (hc : c < 128) (hl : l < 1000) (hu : u < 1000) : inR B (nI l) (nI u) i ↔ (l ≤ c ∧ c ≤ u) := by
  show (¬ B i < nI l ∧ ¬ nI u < B i) ↔ _
  rw [h, ilt (by omega) (by omega), ilt (by omega) (by omega)]
  omega
/-- the head of what follows is none of l .. u -/
def NH (l u : Nat) (L : List Nat) : Prop := ∀ c T, L = c :: T → ¬ (l ≤ c ∧ c ≤ u)
theorem rn_sx (hl : l < 1000) (hu : u < 1000) (hR : NH l u R) : ∀ {A : List Nat} {p : Nat}, (∀ c, c ∈ A → l ≤ c ∧ c ≤ u) → TxL B n p (A ++ R) → rn B (nI l) (nI u) n p = p + A.length
  | [], p, _, h => by
    rw [rn_n]
    · rfl
    · rintro ⟨h1, h2⟩
      have h' : TxL B n p R := h
      cases R with
      | nil => have := h'.1; rw [List.length_nil] at this; omega
      | cons c T => exact hR c T rfl ((inR_n h'.hd.2.1 h'.hd.2.2 hl hu).mp h2)
  | a :: A, p, hA, h => by
    have h' : TxL B n p (a :: (A ++ R)) := h
    have h1 := h'.hd
    rw [rn_y ⟨h1.1, (inR_n h1.2.1 h1.2.2 hl hu).mpr (hA a (List.mem_cons_self))⟩, rn_sx hl hu hR (fun c hc => hA c (List.mem_cons_of_mem _ hc)) h'.tl, List.length_cons]
    omega
/-- blanks in front -/
theorem tS_sp (h : TxL B n p (32 :: L)) : tS B n p = tS B n (p + 1) := by
  have h1 := h.hd
  exact rn_y ⟨h1.1, (inR_n (l := 32) (u := 32) h1.2.1 h1.2.2 (by decide) (by decide)).mpr ⟨Nat.le_refl _, Nat.le_refl _⟩⟩
theorem tS_0 (h : TxL B n p L) (hh : NH 32 32 L) : tS B n p = p := rn_sx (l := 32) (u := 32) (A := []) (by decide) (by decide) hh (fun _ h => by simp at h) h
theorem tE_q (h : tS B n p = tS B n q) : tE B n p = tE B n q := by
  unfold tE tA tD
  rw [h]
theorem tK_q (h : tS B n p = tS B n q) : tK B n p = tK B n q := by
  unfold tK tA tD
  rw [h]
theorem tV_q (h : tS B n p = tS B n q) : tV B n p = tV B n q := by
  unfold tV
  rw [tE_q h, h]
theorem NH.of (h : ∀ c T, L = c :: T → l ≤ c ∧ c ≤ u) {x : Nat} (hx : u < x ∨ x < l) : NH x x L := fun c T e z => by
  have := h c T e
  omega
/-- a word -/
theorem tk_w (hne : A ≠ []) (hA : ∀ c, c ∈ A → 97 ≤ c ∧ c ≤ 122) (hl : A.length ≤ 7) (hR : NH 97 122 R) (h : TxL B n p (A ++ R)) : tS B n p = p ∧ tE B n p = p + A.length ∧ tK B n p = 1 := by
  have hp : 0 < A.length := List.length_pos_iff.mpr hne
  have e1 : tS B n p = p := tS_0 h fun c T e z => by
    cases A with
    | nil => exact absurd rfl hne
    | cons a A =>
      obtain rfl : a = c := (List.cons.inj e).1
      have := hA a List.mem_cons_self
      omega
  have e2 : tA B n p = p + A.length := by
    unfold tA
    rw [e1]
    exact rn_sx (l := 97) (u := 122) (by decide) (by decide) hR hA h
  refine ⟨e1, ?_, ?_⟩
  · unfold tE
    rw [e1, e2, if_pos (by omega)]
  · unfold tK
    rw [e1, e2, if_pos (by omega), if_neg (by omega)]
/-- a number -/
theorem tk_d (hne : A ≠ []) (hA : ∀ c, c ∈ A → 48 ≤ c ∧ c ≤ 57) (hl : A.length ≤ 3) (hR : NH 48 57 R) (h : TxL B n p (A ++ R)) : tS B n p = p ∧ tE B n p = p + A.length ∧ tK B n p = 2 := by
  have hp : 0 < A.length := List.length_pos_iff.mpr hne
  have hh : ∀ c T, A ++ R = c :: T → 48 ≤ c ∧ c ≤ 57 := fun c T e => by
    cases A with
    | nil => exact absurd rfl hne
    | cons a A =>
      obtain rfl : a = c := (List.cons.inj e).1
      exact hA a List.mem_cons_self
  have e1 : tS B n p = p := tS_0 h fun c T e z => by have := hh c T e; omega
  have e2 : tA B n p = p := by
    unfold tA
    rw [e1]
    exact rn_sx (l := 97) (u := 122) (A := []) (by decide) (by decide) (fun c T e z => by have := hh c T e; omega) (fun _ h => by simp at h) h
  have e3 : tD B n p = p + A.length := by
    unfold tD
    rw [e1]
    exact rn_sx (l := 48) (u := 57) (by decide) (by decide) hR hA h
  refine ⟨e1, ?_, ?_⟩
  · unfold tE
    rw [e1, e2, e3, if_neg (by omega), if_pos (by omega)]
  · unfold tK
    rw [e1, e2, e3, if_neg (by omega), if_pos (by omega), if_neg (by omega)]
/-- the number that digits make -/
def dvl (A : List Nat) (v : Nat) : Nat := A.foldl (fun v c => v * 10 + (c - 48)) v
theorem nmF_l : ∀ {A : List Nat} {i : Nat}, (∀ j d, A[j]? = some d → B (p + i + j) = nI d ∧ d < 128) → nmF B p (i + A.length) = dvl A (nmF B p i)
  | [], i, _ => rfl
  | a :: A, i, h => by
    have h0 := h 0 a rfl
    have e : nmF B p (i + 1) = nmF B p i * 10 + (a - 48) := by
      show nmF B p i * 10 + ((B (p + i)).toInt.toNat - 48) = _
      rw [show B (p + i) = nI a from h0.1, nI_toInt (by omega)]
      rfl
    rw [List.length_cons, show i + (A.length + 1) = i + 1 + A.length by omega, nmF_l (fun j d hj => by
      have := h (j + 1) d (by simpa using hj)
      rwa [show p + i + (j + 1) = p + (i + 1) + j by omega] at this), e]
    rfl
theorem tv_d (h : TxL B n p (A ++ R)) (h1 : tS B n p = p) (h2 : tE B n p = p + A.length) : tV B n p = dvl A 0 := by
  unfold tV
  rw [h1, h2, show p + A.length - p = 0 + A.length by omega]
  exact nmF_l (i := 0) fun j d hj => h.app.2 j d hj
/-- a sign -/
theorem tk_s (hc : c = 59 ∨ c = 40 ∨ c = 41) (h : TxL B n p (c :: R)) : tS B n p = p ∧ tE B n p = p + 1 ∧ tK B n p = (if c = 59 then 3 else if c = 40 then 4 else 5) := by
  have h1 := h.hd
  have e1 : tS B n p = p := tS_0 h fun d T e z => by
    obtain rfl : c = d := (List.cons.inj e).1
    omega
  have e2 : tA B n p = p := by
    unfold tA
    rw [e1]
    exact rn_sx (l := 97) (u := 122) (A := []) (by decide) (by decide) (fun d T e z => by
      obtain rfl : c = d := (List.cons.inj e).1
      omega) (fun _ h => by simp at h) h
  have e3 : tD B n p = p := by
    unfold tD
    rw [e1]
    exact rn_sx (l := 48) (u := 57) (A := []) (by decide) (by decide) (fun d T e z => by
      obtain rfl : c = d := (List.cons.inj e).1
      omega) (fun _ h => by simp at h) h
  refine ⟨e1, ?_, ?_⟩
  · unfold tE
    rw [e1, e2, e3, if_neg (by omega), if_neg (by omega), if_neg (by omega)]
  · unfold tK
    rw [e1, e2, e3, if_neg (by omega), if_neg (by omega), if_neg (by omega), h1.2.1]
    rcases hc with rfl | rfl | rfl <;> decide
/-- the end -/
theorem tk_0 (h : TxL B n p []) : tK B n p = 0 := by
  have h1 : p = n := by have := h.1; rw [List.length_nil] at this; omega
  subst h1
  have e1 : tS B p p = p := tS_0 h fun c T e => by cases e
  have a0 : tA B p p ≤ p := by unfold tA; rw [e1]; exact rn_le (Nat.le_refl _)
  have a1 : tD B p p ≤ p := by unfold tD; rw [e1]; exact rn_le (Nat.le_refl _)
  unfold tK
  rw [e1, if_neg (by omega), if_neg (by omega), if_pos (Nat.le_refl _)]
end SXT
