/-! tokens: what both see in the bytes -/
theorem ile {a b : Nat} (ha : a < 1000000000) (hb : b < 1000000000) : (nI a ≤ nI b) = (a ≤ b) := by
  rw [Int32.le_iff_toInt_le, nI_toInt (by omega), nI_toInt (by omega)]
  exact propext ⟨fun h => by omega, fun h => by omega⟩
theorem ilt {a b : Nat} (ha : a < 1000000000) (hb : b < 1000000000) : (nI a < nI b) = (a < b) := by
  rw [Int32.lt_iff_toInt_lt, nI_toInt (by omega), nI_toInt (by omega)]
  exact propext ⟨fun h => by omega, fun h => by omega⟩
theorem u2_uu {f : Nat → Nat → Int32} {a k : Nat} {x y : Int32} : u2 (u2 f a k x) a k y = u2 f a k y := by
  funext b j
  unfold u2
  by_cases h : b = a <;> by_cases h2 : j = k <;> simp [h, h2]
theorem u2_id {f : Nat → Nat → Int32} {a k : Nat} {x : Int32} (h : f a k = x) : u2 f a k x = f := by
  funext b j
  unfold u2
  by_cases h1 : b = a
  · by_cases h2 : j = k
    · rw [if_pos h1, if_pos h2, h1, h2, h]
    · rw [if_pos h1, if_neg h2]
  · rw [if_neg h1]
section TKN
variable {B : Nat → Int32} {lo hi : Int32} {n p : Nat}
abbrev inR (B : Nat → Int32) (lo hi : Int32) (i : Nat) : Prop := ¬ B i < lo ∧ ¬ hi < B i
def rnF (B : Nat → Int32) (lo hi : Int32) (n : Nat) : Nat → Nat → Nat
  | 0, p => p
  | k + 1, p => if p < n ∧ inR B lo hi p then rnF B lo hi n k (p + 1) else p
/-- where a run ends -/
def rn (B : Nat → Int32) (lo hi : Int32) (n p : Nat) : Nat := rnF B lo hi n (n - p) p
theorem rn_y (h : p < n ∧ inR B lo hi p) : rn B lo hi n p = rn B lo hi n (p + 1) := by
  unfold rn
  rw [show n - p = (n - (p + 1)) + 1 by omega]
  show (if p < n ∧ inR B lo hi p then _ else _) = _
  rw [if_pos h]
theorem rn_n (h : ¬ (p < n ∧ inR B lo hi p)) : rn B lo hi n p = p := by
  unfold rn
  cases n - p with
  | zero => rfl
  | succ k =>
    show (if p < n ∧ inR B lo hi p then _ else _) = _
    rw [if_neg h]
theorem rn_all : ∀ d p, n - p = d → p ≤ rn B lo hi n p ∧ (p ≤ n → rn B lo hi n p ≤ n) ∧ (∀ q, p ≤ q → q < rn B lo hi n p → q < n ∧ inR B lo hi q) ∧ ¬ (rn B lo hi n p < n ∧ inR B lo hi (rn B lo hi n p)) := by
  intro d
  induction d with
  | zero =>
    intro p hp
    have h : ¬ (p < n ∧ inR B lo hi p) := fun h => by omega
    rw [rn_n h]
    exact ⟨Nat.le_refl _, id, fun q h1 h2 => by omega, h⟩
  | succ d ih =>
    intro p hp
    by_cases h : p < n ∧ inR B lo hi p
    · obtain ⟨h1, h2, h3, h4⟩ := ih (p + 1) (by omega)
      rw [rn_y h]
      refine ⟨by omega, fun _ => h2 (by omega), fun q k1 k2 => ?_, h4⟩
      by_cases e : q = p
      · rw [e]; exact h
      · exact h3 q (by omega) k2
    · rw [rn_n h]
      exact ⟨Nat.le_refl _, id, fun q h1 h2 => by omega, h⟩
theorem rn_ge : p ≤ rn B lo hi n p := (rn_all _ p rfl).1
theorem rn_le (h : p ≤ n) : rn B lo hi n p ≤ n := (rn_all _ p rfl).2.1 h
theorem rn_in {q : Nat} (h1 : p ≤ q) (h2 : q < rn B lo hi n p) : q < n ∧ inR B lo hi q := (rn_all _ p rfl).2.2.1 q h1 h2
def tS (B : Nat → Int32) (n p : Nat) : Nat := rn B 32 32 n p
def tA (B : Nat → Int32) (n p : Nat) : Nat := rn B 97 122 n (tS B n p)
def tD (B : Nat → Int32) (n p : Nat) : Nat := rn B 48 57 n (tS B n p)
def sgn (x : Int32) : Nat := if x = 59 then 3 else if x = 40 then 4 else if x = 41 then 5 else 6
def tE (B : Nat → Int32) (n p : Nat) : Nat := if tS B n p < tA B n p then tA B n p else if tS B n p < tD B n p then tD B n p else if n ≤ tS B n p then tS B n p else tS B n p + 1
def tK (B : Nat → Int32) (n p : Nat) : Nat := if tS B n p < tA B n p then (if 7 < tA B n p - tS B n p then 6 else 1) else if tS B n p < tD B n p then (if 3 < tD B n p - tS B n p then 6 else 2) else if n ≤ tS B n p then 0 else sgn (B (tS B n p))
def nmF (B : Nat → Int32) (s : Nat) : Nat → Nat
  | 0 => 0
  | i + 1 => nmF B s i * 10 + ((B (s + i)).toInt.toNat - 48)
def tV (B : Nat → Int32) (n p : Nat) : Nat := nmF B (tS B n p) (tE B n p - tS B n p)
def kc (k : Nat) : Nat := (k + 1) % 7
theorem sgn_c {x : Int32} : sgn x = 3 ∨ sgn x = 4 ∨ sgn x = 5 ∨ sgn x = 6 := by
  unfold sgn
  split
  · omega
  split
  · omega
  split <;> omega
theorem tK_7 : tK B n p < 7 := by
  unfold tK
  have := sgn_c (x := B (tS B n p))
  split
  · split <;> decide
  split
  · split <;> decide
  split <;> omega
theorem tS_ge : p ≤ tS B n p := rn_ge
theorem tS_le (h : p ≤ n) : tS B n p ≤ n := rn_le h
theorem tE_ge : tS B n p ≤ tE B n p := by
  unfold tE
  split
  · omega
  split
  · omega
  split <;> omega
theorem tE_le (h : p ≤ n) : tE B n p ≤ n := by
  have h1 := tS_le (B := B) h
  have h2 : tA B n p ≤ n := rn_le h1
  have h3 : tD B n p ≤ n := rn_le h1
  unfold tE
  split
  · omega
  split
  · omega
  split <;> omega
/-- a token that is not the end takes a place -/
theorem tE_gt (h : tK B n p ≠ 0) : tS B n p < tE B n p := by
  revert h
  unfold tE tK
  split
  · omega
  split
  · omega
  split
  · intro h; exact absurd rfl h
  · omega
theorem tK_0 (h : tK B n p = 0) : n ≤ tS B n p ∧ tE B n p = tS B n p := by
  revert h
  have := sgn_c (x := B (tS B n p))
  unfold tE tK
  split
  · split <;> intro h <;> cases h
  split
  · split <;> intro h <;> cases h
  split
  · exact fun _ => ⟨by assumption, rfl⟩
  · omega
theorem tK_1 (h : tK B n p = 1) : tE B n p = tA B n p ∧ tS B n p < tA B n p ∧ tA B n p - tS B n p ≤ 7 := by
  revert h
  have := sgn_c (x := B (tS B n p))
  unfold tE tK
  split
  · split
    · intro h; cases h
    · exact fun _ => ⟨rfl, by assumption, by omega⟩
  split
  · split <;> intro h <;> cases h
  split <;> omega
theorem tK_2 (h : tK B n p = 2) : tE B n p = tD B n p ∧ tS B n p < tD B n p ∧ tD B n p - tS B n p ≤ 3 := by
  revert h
  have := sgn_c (x := B (tS B n p))
  unfold tE tK
  split
  · split <;> intro h <;> cases h
  split
  · split
    · intro h; cases h
    · exact fun _ => ⟨rfl, by assumption, by omega⟩
  split <;> omega
theorem dgt {i : Nat} (h : inR B 48 57 i) : ∃ c, B i = nI (48 + c) ∧ c ≤ 9 ∧ (B i).toInt.toNat - 48 = c := by
  obtain ⟨h1, h2⟩ := h
  rw [Int32.lt_iff_toInt_lt] at h1 h2
  have e1 : (48 : Int32).toInt = 48 := rfl
  have e2 : (57 : Int32).toInt = 57 := rfl
  refine ⟨(B i).toInt.toNat - 48, ?_, by omega, rfl⟩
  apply Int32.toInt_inj.mp
  rw [nI_toInt (by omega)]
  omega
theorem ltr {i : Nat} (h : inR B 97 122 i) : ∃ c, B i = nI c ∧ 97 ≤ c ∧ c ≤ 122 := by
  obtain ⟨h1, h2⟩ := h
  rw [Int32.lt_iff_toInt_lt] at h1 h2
  have e1 : (97 : Int32).toInt = 97 := rfl
  have e2 : (122 : Int32).toInt = 122 := rfl
  refine ⟨(B i).toInt.toNat, ?_, by omega, by omega⟩
  apply Int32.toInt_inj.mp
  rw [nI_toInt (by omega)]
  omega
theorem nmF_b {s : Nat} : ∀ i, (∀ j, j < i → inR B 48 57 (s + j)) → i ≤ 3 → nmF B s i < 10 ^ i
  | 0, _, _ => by show 0 < 1; decide
  | i + 1, h, hi => by
    have h1 := nmF_b i (fun j hj => h j (by omega)) (by omega)
    obtain ⟨c, -, h3, h4⟩ := dgt (h i (by omega))
    show nmF B s i * 10 + ((B (s + i)).toInt.toNat - 48) < _
    rw [h4, Nat.pow_succ]
    omega
theorem tV_b (h : tK B n p = 2) : tV B n p < 1000 := by
  obtain ⟨h1, h2, h3⟩ := tK_2 h
  have := nmF_b (B := B) (s := tS B n p) (tE B n p - tS B n p) (fun j hj => (rn_in (B := B) (lo := 48) (hi := 57) (n := n) (p := tS B n p) (by omega) (by show _ < tD B n p; omega)).2) (by omega)
  have h5 : 10 ^ (tE B n p - tS B n p) ≤ 10 ^ 3 := Nat.pow_le_pow_right (by decide) (by omega)
  unfold tV
  omega
end TKN
/-! the class's scanner -/
section CSC
variable {I J : Mem} {B : Nat → Int32} {lo hi : Int32} {n p r k m t : Nat}
def CTok (I : Mem) (r : Nat) (B : Nat → Int32) (n p : Nat) : Prop := (I (r + 1) 2 = nI n ∧ I (r + 1) 3 = nI p) ∧ ∀ i, i < n → I (r + 1 + 1) i = B i
theorem skip_go (hn : n ≤ 500) (h2 : I t 2 = nI n) (hb : ∀ i, i < n → I (t + 1) i = B i) : ∀ d p, n - p = d → p ≤ n → ∀ f, d < f → l_X7_skip_0 f (u2 I t 3 (nI p)) t lo hi = some (u2 I t 3 (nI (rn B lo hi n p))) := by
  intro d
  induction d with
  | zero =>
    intro p hp hpn f hf
    obtain ⟨f, rfl⟩ : ∃ g, f = g + 1 := ⟨f - 1, by omega⟩
    show (if (u2 I t 3 (nI p)) t 2 ≤ (u2 I t 3 (nI p)) t 3 then _ else _) = _
    rw [u2_k (by decide), u2_s, h2, if_pos (by rw [ile (by omega) (by omega)]; omega), rn_n (fun h => by omega)]
  | succ d ih =>
    intro p hp hpn f hf
    obtain ⟨f, rfl⟩ : ∃ g, f = g + 1 := ⟨f - 1, by omega⟩
    have e3 : (u2 I t 3 (nI p)) t 3 = nI p := u2_s
    have eb : (u2 I t 3 (nI p)) (t + 1) p = B p := by rw [u2_a (by omega)]; exact hb p (by omega)
    show (if (u2 I t 3 (nI p)) t 2 ≤ (u2 I t 3 (nI p)) t 3 then _ else (b1 (ix ((u2 I t 3 (nI p)) t 3) 500) fun j1 => if ((u2 I t 3 (nI p)) (t + 1) j1) < lo then (some (u2 I t 3 (nI p))) else (b1 (ix ((u2 I t 3 (nI p)) t 3) 500) fun j2 => if hi < ((u2 I t 3 (nI p)) (t + 1) j2) then (some (u2 I t 3 (nI p))) else (b1 (pu (u2 I t 3 (nI p)) t 3 (((u2 I t 3 (nI p)) t 3) + 1)) fun I3 => l_X7_skip_0 f I3 t lo hi)))) = _
    rw [u2_k (by decide), e3, h2, if_neg (by rw [ile (by omega) (by omega)]; omega), ix_n (by omega) (by decide), b1_so, eb]
    by_cases h : inR B lo hi p
    · rw [if_neg h.1, b1_so, eb, if_neg h.2, pu_so, b1_so, nI_s1, u2_uu, ih (p + 1) (by omega) (by omega) f (by omega), rn_y ⟨by omega, h⟩]
    · rw [rn_n (fun z => h z.2)]
      by_cases h1 : B p < lo
      · rw [if_pos h1]
      · rw [if_neg h1, b1_so, eb, if_pos (Classical.byContradiction fun h2 => h ⟨h1, h2⟩)]
theorem skip_row (hn : n ≤ 500) (hp : p ≤ n) (h2 : I t 2 = nI n) (h3 : I t 3 = nI p) (hb : ∀ i, i < n → I (t + 1) i = B i) : f_X7_skip I t lo hi = some (u2 I t 3 (nI (rn B lo hi n p))) := by
  have := skip_go (lo := lo) (hi := hi) hn h2 hb (n - p) p rfl hp FU (FU_up (by omega))
  rw [u2_id h3] at this
  exact this
theorem ckK_n {k : Nat} (h : k < 7) : ckK k = some () := if_pos h
/-- after a scan -/
def Sc (I I' : Mem) (t s e : Nat) : Prop := (∀ a, a ≠ t → I' a = I a) ∧ (∀ j, j ≠ 3 → j ≠ 4 → I' t j = I t j) ∧ I' t 3 = nI e ∧ I' t 4 = nI s
theorem sgn_row {x : Int32} : f_X7_kindOfSign x = some (sgn x) := by
  unfold f_X7_kindOfSign sgn
  split
  · rfl
  split
  · rfl
  split <;> rfl
theorem scan_row (hn : n ≤ 500) (hp : p ≤ n) (C : CTok I r B n p) : ∃ I', f_X7_scan I k (r + 1) = some (I', tK B n p) ∧ Sc I I' (r + 1) (tS B n p) (tE B n p) := by
  obtain ⟨⟨h2, h3⟩, hb⟩ := C
  have s1 := tS_le (B := B) hp
  have s2 := tS_ge (B := B) (n := n) (p := p)
  have a0 : tS B n p ≤ tA B n p := rn_ge
  have a1 : tA B n p ≤ n := rn_le s1
  have d0 : tS B n p ≤ tD B n p := rn_ge
  have d1 : tD B n p ≤ n := rn_le s1
  have g1 := skip_row (lo := 32) (hi := 32) hn hp h2 h3 hb
  have g2 : f_X7_skip (u2 (u2 I (r + 1) 3 (nI (tS B n p))) (r + 1) 4 (nI (tS B n p))) (r + 1) 97 122 = some (u2 (u2 (u2 I (r + 1) 3 (nI (tS B n p))) (r + 1) 4 (nI (tS B n p))) (r + 1) 3 (nI (tA B n p))) := skip_row hn s1 (by rw [u2_k (by decide), u2_k (by decide)]; exact h2) (by rw [u2_k (by decide)]; exact u2_s) (fun i hi => by rw [u2_a (by omega), u2_a (by omega)]; exact hb i hi)
  generalize hI4 : u2 (u2 (u2 I (r + 1) 3 (nI (tS B n p))) (r + 1) 4 (nI (tS B n p))) (r + 1) 3 (nI (tA B n p)) = I4 at g2
  have q1 : ∀ a, a ≠ r + 1 → I4 a = I a := fun a ha => by rw [← hI4, u2_a ha, u2_a ha, u2_a ha]
  have q2 : ∀ j, j ≠ 3 → j ≠ 4 → I4 (r + 1) j = I (r + 1) j := fun j h3 h4 => by rw [← hI4, u2_k h3, u2_k h4, u2_k h3]
  have q3 : I4 (r + 1) 3 = nI (tA B n p) := by rw [← hI4]; exact u2_s
  have q4 : I4 (r + 1) 4 = nI (tS B n p) := by rw [← hI4, u2_k (by decide)]; exact u2_s
  have t1 : f_X7_tokenLength I4 (r + 1) = some (nI (tA B n p - tS B n p)) := by
    unfold f_X7_tokenLength
    rw [q3, q4, pk_sub (by omega)]
  unfold f_X7_scan
  rw [g1, b1_so, show rn B 32 32 n p = tS B n p from rfl, show (u2 I (r + 1) 3 (nI (tS B n p))) (r + 1) 3 = nI (tS B n p) from u2_s, pu_so, b1_so, g2, b1_so, q3, q4]
  by_cases hA : tS B n p < tA B n p
  · rw [if_neg (by rw [ile (by omega) (by omega)]; omega), t1, b1_so]
    have eE : tE B n p = tA B n p := by unfold tE; rw [if_pos hA]
    have eK : tK B n p = if 7 < tA B n p - tS B n p then 6 else 1 := by unfold tK; rw [if_pos hA]
    rw [eE, eK]
    by_cases h7 : 7 < tA B n p - tS B n p
    · rw [if_pos (show (7 : Int32) < nI _ from by rw [show (7 : Int32) = nI 7 from rfl, ilt (by omega) (by omega)]; exact h7), if_pos h7]
      exact ⟨I4, rfl, q1, q2, q3, q4⟩
    · rw [if_neg (show ¬ (7 : Int32) < nI _ from by rw [show (7 : Int32) = nI 7 from rfl, ilt (by omega) (by omega)]; exact h7), if_neg h7]
      exact ⟨I4, rfl, q1, q2, q3, q4⟩
  · have eA : tA B n p = tS B n p := by omega
    rw [eA] at q3
    have g3 : f_X7_skip I4 (r + 1) 48 57 = some (u2 I4 (r + 1) 3 (nI (tD B n p))) := skip_row hn s1 (by rw [q2 2 (by decide) (by decide)]; exact h2) q3 (fun i hi => by rw [q1 _ (by omega)]; exact hb i hi)
    generalize hI6 : u2 I4 (r + 1) 3 (nI (tD B n p)) = I6 at g3
    have p1 : ∀ a, a ≠ r + 1 → I6 a = I a := fun a ha => by rw [← hI6, u2_a ha]; exact q1 a ha
    have p2 : ∀ j, j ≠ 3 → j ≠ 4 → I6 (r + 1) j = I (r + 1) j := fun j h3 h4 => by rw [← hI6, u2_k h3]; exact q2 j h3 h4
    have p3 : I6 (r + 1) 3 = nI (tD B n p) := by rw [← hI6]; exact u2_s
    have p4 : I6 (r + 1) 4 = nI (tS B n p) := by rw [← hI6, u2_k (by decide)]; exact q4
    have t2 : f_X7_tokenLength I6 (r + 1) = some (nI (tD B n p - tS B n p)) := by
      unfold f_X7_tokenLength
      rw [p3, p4, pk_sub (by omega)]
    rw [eA, if_pos (Int32.le_refl _), g3, b1_so, p3, p4]
    by_cases hD : tS B n p < tD B n p
    · rw [if_neg (by rw [ile (by omega) (by omega)]; omega), t2, b1_so]
      have eE : tE B n p = tD B n p := by unfold tE; rw [if_neg hA, if_pos hD]
      have eK : tK B n p = if 3 < tD B n p - tS B n p then 6 else 2 := by unfold tK; rw [if_neg hA, if_pos hD]
      rw [eE, eK]
      by_cases h7 : 3 < tD B n p - tS B n p
      · rw [if_pos (show (3 : Int32) < nI _ from by rw [show (3 : Int32) = nI 3 from rfl, ilt (by omega) (by omega)]; exact h7), if_pos h7]
        exact ⟨I6, rfl, p1, p2, p3, p4⟩
      · rw [if_neg (show ¬ (3 : Int32) < nI _ from by rw [show (3 : Int32) = nI 3 from rfl, ilt (by omega) (by omega)]; exact h7), if_neg h7]
        exact ⟨I6, rfl, p1, p2, p3, p4⟩
    · have eD : tD B n p = tS B n p := by omega
      rw [eD] at p3
      rw [eD, if_pos (Int32.le_refl _), p2 2 (by decide) (by decide), h2]
      by_cases hN : n ≤ tS B n p
      · have eE : tE B n p = tS B n p := by unfold tE; rw [if_neg hA, if_neg hD, if_pos hN]
        have eK : tK B n p = 0 := by unfold tK; rw [if_neg hA, if_neg hD, if_pos hN]
        rw [if_pos (by rw [ile (by omega) (by omega)]; exact hN), eE, eK]
        exact ⟨I6, rfl, p1, p2, p3, p4⟩
      · have eE : tE B n p = tS B n p + 1 := by unfold tE; rw [if_neg hA, if_neg hD, if_neg hN]
        have eK : tK B n p = sgn (B (tS B n p)) := by unfold tK; rw [if_neg hA, if_neg hD, if_neg hN]
        have hs := sgn_c (x := B (tS B n p))
        rw [if_neg (by rw [ile (by omega) (by omega)]; exact hN), ix_n (by omega) (by decide), b1_so, p1 _ (by omega), hb _ (by omega), sgn_row, b1_so, ckK_n (by omega), b1_so, pu_so, b1_so, eE, eK, nI_s1]
        exact ⟨_, rfl, fun a ha => by rw [u2_a ha]; exact p1 a ha, fun j h3 h4 => by rw [u2_k h3]; exact p2 j h3 h4, u2_s, by rw [u2_k (by decide)]; exact p4⟩
theorem Sc.tok (S : Sc I J (r + 1) t p) (C : CTok I r B n k) : CTok J r B n p := ⟨⟨(S.2.1 2 (by decide) (by decide)).trans C.1.1, S.2.2.1⟩, fun i hi => (congrFun (S.1 (r + 1 + 1) (by omega)) i).trans (C.2 i hi)⟩
/-- the number that stands there -/
theorem num_go {s e : Nat} (he : e ≤ 500) (h3 : I t 3 = nI e) (hb : ∀ i, s ≤ i → i < e → I (t + 1) i = B i) (hd : ∀ j, s + j < e → inR B 48 57 (s + j)) (h9 : e - s ≤ 3) : ∀ d i, s + i + d = e → ∀ f, d < f → l_X7_number_7 f I t (nI (nmF B s i)) (nI (s + i)) = some (nI (nmF B s (e - s))) := by
  intro d
  induction d with
  | zero =>
    intro i hi f hf
    obtain ⟨f, rfl⟩ : ∃ g, f = g + 1 := ⟨f - 1, by omega⟩
    show (if I t 3 ≤ nI (s + i) then _ else _) = _
    rw [h3, if_pos (by rw [ile (by omega) (by omega)]; omega), show e - s = i by omega]
  | succ d ih =>
    intro i hi f hf
    obtain ⟨f, rfl⟩ : ∃ g, f = g + 1 := ⟨f - 1, by omega⟩
    obtain ⟨c, c1, c2, c3⟩ := dgt (hd i (by omega))
    show (if I t 3 ≤ nI (s + i) then _ else (b1 (ix (nI (s + i)) 500) fun j1 => l_X7_number_7 f I t ((nI (nmF B s i) * 10) + ((I (t + 1) j1) - 48)) (nI (s + i) + 1))) = _
    rw [h3, if_neg (by rw [ile (by omega) (by omega)]; omega), ix_n (by omega) (by decide), b1_so, hb _ (by omega) (by omega), c1, show (48 : Int32) = nI 48 from rfl, pk_sub (by omega), show (10 : Int32) = nI 10 from rfl, pk_mul, nI_add, nI_s1, show nmF B s i * 10 + (48 + c - 48) = nmF B s (i + 1) from by show _ = nmF B s i * 10 + ((B (s + i)).toInt.toNat - 48); rw [c3]; omega]
    exact ih (i + 1) (by omega) f (by omega)
theorem number_row (hn : n ≤ 500) (hp : p ≤ n) (C : CTok I r B n (tE B n p)) (h4 : I (r + 1) 4 = nI (tS B n p)) (hk : tK B n p = 2) : f_X7_number I (r + 1) = some (nI (tV B n p)) := by
  obtain ⟨k1, k2, k3⟩ := tK_2 hk
  have he := tE_le (B := B) hp
  unfold f_X7_number
  rw [h4]
  have := num_go (s := tS B n p) (e := tE B n p) (I := I) (t := r + 1) (B := B) (by omega) C.1.2 (fun i _ hi => C.2 i (by omega)) (fun j hj => (rn_in (B := B) (lo := 48) (hi := 57) (n := n) (p := tS B n p) (by omega) (by show _ < tD B n p; omega)).2) (by omega) (tE B n p - tS B n p) 0 (by omega) FU (FU_up (by omega))
  exact this
end CSC
/-! the reference's -/
section RSC
variable {I J : Mem} {B : Nat → Int32} {lo hi : Int32} {n p r k m t : Nat}
def RTok (J : Mem) (m : Nat) (B : Nat → Int32) (n p : Nat) : Prop := (J m 10 = 0 ∧ J m 12 = nI n ∧ ∀ i, i < n → J (m + 6) i = B i) ∧ (J m 13 = nI (tE B n p) ∧ J m 14 = nI (tS B n p)) ∧ J m 15 = nI (kc (tK B n p)) ∧ (tK B n p = 2 → J m 16 = nI (tV B n p)) ∧ J m 11 = -1
/-- in front of a token -/
def RBnd (J : Mem) (m : Nat) (B : Nat → Int32) (n p : Nat) : Prop := (J m 10 = 0 ∧ J m 12 = nI n ∧ ∀ i, i < n → J (m + 6) i = B i) ∧ J m 13 = nI p ∧ J m 11 = -1
/-- what a token step leaves -/
def Jt (J J' : Mem) (m : Nat) : Prop := (∀ a, a ≠ m → J' a = J a) ∧ ∀ j, (j < 13 ∨ 16 < j) → J' m j = J m j
theorem Jt.refl : Jt J J m := ⟨fun _ _ => rfl, fun _ _ => rfl⟩
theorem Jt.trans {J1 J2 : Mem} (h : Jt J J1 m) (h2 : Jt J1 J2 m) : Jt J J2 m := ⟨fun a ha => (h2.1 a ha).trans (h.1 a ha), fun j hj => (h2.2 j hj).trans (h.2 j hj)⟩
theorem Jt.u {j : Nat} {x : Int32} (h : 13 ≤ j ∧ j ≤ 16) : Jt J (u2 J m j x) m := ⟨fun a ha => u2_a ha, fun i hi => u2_k (by omega)⟩
theorem Jt.bytes {J1 : Mem} (h : Jt J J1 m) (hb : ∀ i, i < n → J (m + 6) i = B i) : ∀ i, i < n → J1 (m + 6) i = B i := fun i hi => by rw [h.1 (m + 6) (by omega)]; exact hb i hi
theorem let_row (hn : n ≤ 500) (h12 : J m 12 = nI n) (hb : ∀ i, i < n → J (m + 6) i = B i) {q : Nat} (hq : q < 1000) : f_Y_isLetter J m (nI q) = some (bI (q < n ∧ inR B 97 122 q)) := by
  unfold f_Y_isLetter
  rw [h12]
  by_cases h : n ≤ q
  · rw [if_pos (by rw [ile (by omega) (by omega)]; exact h), bI_f (fun z => by omega)]
  · rw [if_neg (by rw [ile (by omega) (by omega)]; exact h), ix_n (by omega) (by decide), b1_so, r_in, b1_so, hb q (by omega)]
    by_cases h2 : inR B 97 122 q
    · rw [bI_t (show ¬ B q < 97 ∧ ¬ 122 < B q from h2), if_neg (by decide), bI_t ⟨by omega, h2⟩]
    · rw [bI_f (show ¬ (¬ B q < 97 ∧ ¬ 122 < B q) from h2), if_pos rfl, bI_f (fun z => h2 z.2)]
theorem dig_row (hn : n ≤ 500) (h12 : J m 12 = nI n) (hb : ∀ i, i < n → J (m + 6) i = B i) {q : Nat} (hq : q < 1000) : f_Y_isDigit J m (nI q) = some (bI (q < n ∧ inR B 48 57 q)) := by
  unfold f_Y_isDigit
  rw [h12]
  by_cases h : n ≤ q
  · rw [if_pos (by rw [ile (by omega) (by omega)]; exact h), bI_f (fun z => by omega)]
  · rw [if_neg (by rw [ile (by omega) (by omega)]; exact h), ix_n (by omega) (by decide), b1_so, r_in, b1_so, hb q (by omega)]
    by_cases h2 : inR B 48 57 q
    · rw [bI_t (show ¬ B q < 48 ∧ ¬ 57 < B q from h2), if_neg (by decide), bI_t ⟨by omega, h2⟩]
    · rw [bI_f (show ¬ (¬ B q < 48 ∧ ¬ 57 < B q) from h2), if_pos rfl, bI_f (fun z => h2 z.2)]
theorem gl_go (hn : n ≤ 500) {s : Nat} : ∀ d q, n - q = d → s ≤ q → q ≤ n → ∀ f, d < f → ∀ J, J m 12 = nI n → (∀ i, i < n → J (m + 6) i = B i) → J m 13 = nI q → J m 14 = nI s → ∃ J', l_Y_goes_94 f J m = some J' ∧ Jt J J' m ∧ J' m 13 = nI (rn B 97 122 n q) ∧ J' m 14 = nI s ∧ J' m 15 = (if 7 < rn B 97 122 n q - s then 0 else 2) := by
  have fin : ∀ q, q < 1000 → s ≤ q → ∀ f J, J m 12 = nI n → (∀ i, i < n → J (m + 6) i = B i) → J m 13 = nI q → J m 14 = nI s → ¬ (q < n ∧ inR B 97 122 q) → ∃ J', l_Y_goes_94 (f + 1) J m = some J' ∧ Jt J J' m ∧ J' m 13 = nI (rn B 97 122 n q) ∧ J' m 14 = nI s ∧ J' m 15 = (if 7 < rn B 97 122 n q - s then 0 else 2) := by
    intro q hq hs f J h12 hb h13 h14 h
    refine ⟨u2 J m 15 (if 7 < q - s then 0 else 2), ?_, Jt.u (by omega), by rw [u2_k (by decide), rn_n h]; exact h13, by rw [u2_k (by decide)]; exact h14, by rw [u2_s, rn_n h]⟩
    show (b1 (f_Y_isLetter J m (J m 13)) fun v21 => if v21 = 0 then (if 7 < ((J m 13) - (J m 14)) then (b1 (pu J m 15 0) fun I23 => some (I23)) else (b1 (pu J m 15 2) fun I24 => some (I24))) else _) = _
    rw [h13, h14, let_row hn h12 hb hq, b1_so, bI_f h, if_pos rfl, pk_sub hs]
    by_cases h7 : 7 < q - s
    · rw [if_pos (show (7 : Int32) < nI _ from by rw [show (7 : Int32) = nI 7 from rfl, ilt (by omega) (by omega)]; exact h7), if_pos h7, pu_so, b1_so]
    · rw [if_neg (show ¬ (7 : Int32) < nI _ from by rw [show (7 : Int32) = nI 7 from rfl, ilt (by omega) (by omega)]; exact h7), if_neg h7, pu_so, b1_so]
  intro d
  induction d with
  | zero =>
    intro q hd hs hq f hf J h12 hb h13 h14
    obtain ⟨f, rfl⟩ : ∃ g, f = g + 1 := ⟨f - 1, by omega⟩
    exact fin q (by omega) hs f J h12 hb h13 h14 (fun z => by omega)
  | succ d ih =>
    intro q hd hs hq f hf J h12 hb h13 h14
    obtain ⟨f, rfl⟩ : ∃ g, f = g + 1 := ⟨f - 1, by omega⟩
    by_cases h : q < n ∧ inR B 97 122 q
    · obtain ⟨J', g1, g2, g3, g4, g5⟩ := ih (q + 1) (by omega) (by omega) (by omega) f (by omega) (u2 J m 13 (nI (q + 1))) (by rw [u2_k (by decide)]; exact h12) (fun i hi => by rw [u2_a (by omega)]; exact hb i hi) u2_s (by rw [u2_k (by decide)]; exact h14)
      refine ⟨J', ?_, (Jt.u (by omega)).trans g2, by rw [rn_y h]; exact g3, g4, by rw [rn_y h]; exact g5⟩
      show (b1 (f_Y_isLetter J m (J m 13)) fun v21 => if v21 = 0 then _ else (b1 (pu J m 13 ((J m 13) + 1)) fun I25 => l_Y_goes_94 f I25 m)) = _
      rw [h13, let_row hn h12 hb (by omega), b1_so, bI_t h, if_neg (by decide), nI_s1, pu_so, b1_so]
      exact g1
    · exact fin q (by omega) hs f J h12 hb h13 h14 h
theorem gd_go (hn : n ≤ 500) {s : Nat} : ∀ d q, n - q = d → s ≤ q → q ≤ n → (∀ j, s + j < q → inR B 48 57 (s + j)) → ∀ f, d < f → ∀ J, J m 12 = nI n → (∀ i, i < n → J (m + 6) i = B i) → J m 13 = nI q → J m 14 = nI s → J m 16 = nI (nmF B s (min (q - s) 3)) → ∃ J', l_Y_goes_158 f J m = some J' ∧ Jt J J' m ∧ J' m 13 = nI (rn B 48 57 n q) ∧ J' m 14 = nI s ∧ J' m 15 = (if 3 < rn B 48 57 n q - s then 0 else 3) ∧ J' m 16 = nI (nmF B s (min (rn B 48 57 n q - s) 3)) := by
  have fin : ∀ q, q < 1000 → s ≤ q → ∀ f J, J m 12 = nI n → (∀ i, i < n → J (m + 6) i = B i) → J m 13 = nI q → J m 14 = nI s → J m 16 = nI (nmF B s (min (q - s) 3)) → ¬ (q < n ∧ inR B 48 57 q) → ∃ J', l_Y_goes_158 (f + 1) J m = some J' ∧ Jt J J' m ∧ J' m 13 = nI (rn B 48 57 n q) ∧ J' m 14 = nI s ∧ J' m 15 = (if 3 < rn B 48 57 n q - s then 0 else 3) ∧ J' m 16 = nI (nmF B s (min (rn B 48 57 n q - s) 3)) := by
    intro q hq hs f J h12 hb h13 h14 h16 h
    refine ⟨u2 J m 15 (if 3 < q - s then 0 else 3), ?_, Jt.u (by omega), by rw [u2_k (by decide), rn_n h]; exact h13, by rw [u2_k (by decide)]; exact h14, by rw [u2_s, rn_n h], by rw [u2_k (by decide), rn_n h]; exact h16⟩
    show (b1 (f_Y_isDigit J m (J m 13)) fun v13 => if v13 = 0 then (if 3 < ((J m 13) - (J m 14)) then (b1 (pu J m 15 0) fun I15 => some (I15)) else (b1 (pu J m 15 3) fun I16 => some (I16))) else _) = _
    rw [h13, h14, dig_row hn h12 hb hq, b1_so, bI_f h, if_pos rfl, pk_sub hs]
    by_cases h7 : 3 < q - s
    · rw [if_pos (show (3 : Int32) < nI _ from by rw [show (3 : Int32) = nI 3 from rfl, ilt (by omega) (by omega)]; exact h7), if_pos h7, pu_so, b1_so]
    · rw [if_neg (show ¬ (3 : Int32) < nI _ from by rw [show (3 : Int32) = nI 3 from rfl, ilt (by omega) (by omega)]; exact h7), if_neg h7, pu_so, b1_so]
  intro d
  induction d with
  | zero =>
    intro q hd hs hq hr f hf J h12 hb h13 h14 h16
    obtain ⟨f, rfl⟩ : ∃ g, f = g + 1 := ⟨f - 1, by omega⟩
    exact fin q (by omega) hs f J h12 hb h13 h14 h16 (fun z => by omega)
  | succ d ih =>
    intro q hd hs hq hr f hf J h12 hb h13 h14 h16
    obtain ⟨f, rfl⟩ : ∃ g, f = g + 1 := ⟨f - 1, by omega⟩
    by_cases h : q < n ∧ inR B 48 57 q
    · have hr' : ∀ j, s + j < q + 1 → inR B 48 57 (s + j) := fun j hj => by
        by_cases e : s + j = q
        · rw [e]; exact h.2
        · exact hr j (by omega)
      have head : ∀ {X : Option Mem}, (if 3 ≤ nI (q - s) then (b1 (pu J m 13 (nI q + 1)) fun I17 => l_Y_goes_158 f I17 m) else (b1 (ix (nI q) 500) fun j18 => b1 (pu J m 16 (((10 * (J m 16)) + (J (m + 6) j18)) - 48)) fun I19 => b1 (pu I19 m 13 ((I19 m 13) + 1)) fun I20 => l_Y_goes_158 f I20 m)) = X → l_Y_goes_158 (f + 1) J m = X := fun {X} hX => by
        show (b1 (f_Y_isDigit J m (J m 13)) fun v13 => if v13 = 0 then _ else (if 3 ≤ ((J m 13) - (J m 14)) then (b1 (pu J m 13 ((J m 13) + 1)) fun I17 => l_Y_goes_158 f I17 m) else (b1 (ix (J m 13) 500) fun j18 => b1 (pu J m 16 (((10 * (J m 16)) + (J (m + 6) j18)) - 48)) fun I19 => b1 (pu I19 m 13 ((I19 m 13) + 1)) fun I20 => l_Y_goes_158 f I20 m))) = _
        rw [h13, h14, dig_row hn h12 hb (by omega), b1_so, bI_t h, if_neg (by decide), pk_sub hs]
        exact hX
      by_cases h3 : 3 ≤ q - s
      · obtain ⟨J', g1, g2, g3, g4, g5, g6⟩ := ih (q + 1) (by omega) (by omega) (by omega) hr' f (by omega) (u2 J m 13 (nI (q + 1))) (by rw [u2_k (by decide)]; exact h12) (fun i hi => by rw [u2_a (by omega)]; exact hb i hi) u2_s (by rw [u2_k (by decide)]; exact h14) (by rw [u2_k (by decide), h16]; congr 2; omega)
        refine ⟨J', head ?_, (Jt.u (by omega)).trans g2, by rw [rn_y h]; exact g3, g4, by rw [rn_y h]; exact g5, by rw [rn_y h]; exact g6⟩
        rw [if_pos (show (3 : Int32) ≤ nI _ from by rw [show (3 : Int32) = nI 3 from rfl, ile (by omega) (by omega)]; exact h3), nI_s1, pu_so, b1_so]
        exact g1
      · obtain ⟨c, c1, c2, c3⟩ := dgt h.2
        have hv := nmF_b (B := B) (s := s) (q - s) (fun j hj => hr j (by omega)) (by omega)
        have hv2 : 10 ^ (q - s) ≤ 10 ^ 3 := Nat.pow_le_pow_right (by decide) (by omega)
        have e16 : ((10 * (J m 16)) + (J (m + 6) q)) - 48 = nI (nmF B s (min (q + 1 - s) 3)) := by
          rw [h16, hb q (by omega), c1, show (10 : Int32) = nI 10 from rfl, pk_mul, nI_add, show (48 : Int32) = nI 48 from rfl, pk_sub (by omega), show min (q + 1 - s) 3 = (q - s) + 1 by omega, show min (q - s) 3 = q - s by omega]
          congr 1
          show _ = nmF B s (q - s) * 10 + ((B (s + (q - s))).toInt.toNat - 48)
          rw [show s + (q - s) = q by omega, c3]
          omega
        obtain ⟨J', g1, g2, g3, g4, g5, g6⟩ := ih (q + 1) (by omega) (by omega) (by omega) hr' f (by omega) (u2 (u2 J m 16 (nI (nmF B s (min (q + 1 - s) 3)))) m 13 (nI (q + 1))) (by rw [u2_k (by decide), u2_k (by decide)]; exact h12) (fun i hi => by rw [u2_a (by omega), u2_a (by omega)]; exact hb i hi) u2_s (by rw [u2_k (by decide), u2_k (by decide)]; exact h14) (by rw [u2_k (by decide)]; exact u2_s)
        refine ⟨J', head ?_, ((Jt.u (by omega)).trans (Jt.u (by omega))).trans g2, by rw [rn_y h]; exact g3, g4, by rw [rn_y h]; exact g5, by rw [rn_y h]; exact g6⟩
        rw [if_neg (show ¬ (3 : Int32) ≤ nI _ from by rw [show (3 : Int32) = nI 3 from rfl, ile (by omega) (by omega)]; exact h3), ix_n (by omega) (by decide), b1_so, e16, pu_so, b1_so, u2_k (by decide), h13, nI_s1, pu_so, b1_so]
        exact g1
    · exact fin q (by omega) hs f J h12 hb h13 h14 h16 h
theorem sg_row {x : Int32} : f_Y_signOf x = some (nI (kc (sgn x))) := by
  unfold f_Y_signOf sgn
  split
  · rfl
  split
  · rfl
  split <;> rfl
theorem u71 (hn : n ≤ 500) (hp : p ≤ n) {J : Mem} (h10 : J m 10 = 0) (h11 : J m 11 = -1) (h12 : J m 12 = nI n) (hb : ∀ i, i < n → J (m + 6) i = B i) (h13 : J m 13 = nI (tS B n p)) : ∃ J', l_Y_goes_46 J m = some J' ∧ RTok J' m B n p ∧ Jt J J' m := by
  have s1 := tS_le (B := B) hp
  have a0 : tS B n p ≤ tA B n p := rn_ge
  have a1 : tA B n p ≤ n := rn_le s1
  have d0 : tS B n p ≤ tD B n p := rn_ge
  have d1 : tD B n p ≤ n := rn_le s1
  have e13 : (u2 J m 14 (nI (tS B n p))) m 13 = nI (tS B n p) := by rw [u2_k (by decide)]; exact h13
  have e12 : (u2 J m 14 (nI (tS B n p))) m 12 = nI n := by rw [u2_k (by decide)]; exact h12
  unfold l_Y_goes_46
  rw [h13, pu_so, b1_so, e13, e12]
  have T : ∀ y, y = 0 ∨ y = 1 → ∃ J2, J2 = u2 (u2 J m 14 (nI (tS B n p))) m 15 y ∧ Jt J J2 m ∧ J2 m 12 = nI n ∧ J2 m 13 = nI (tS B n p) ∧ J2 m 14 = nI (tS B n p) ∧ J2 m 15 = y := fun y _ => ⟨_, rfl, (Jt.u (by omega)).trans (Jt.u (by omega)), by rw [u2_k (by decide)]; exact e12, by rw [u2_k (by decide)]; exact e13, by rw [u2_k (by decide)]; exact u2_s, u2_s⟩
  by_cases hN : n ≤ tS B n p
  · obtain ⟨J2, q1, q2, q3, q4, q5, q6⟩ := T 1 (Or.inr rfl)
    have hA : ¬ tS B n p < tA B n p := by omega
    have hD : ¬ tS B n p < tD B n p := by omega
    have eE : tE B n p = tS B n p := by unfold tE; rw [if_neg hA, if_neg hD, if_pos hN]
    have eK : tK B n p = 0 := by unfold tK; rw [if_neg hA, if_neg hD, if_pos hN]
    refine ⟨J2, ?_, ⟨⟨(q2.2 10 (by decide)).trans h10, q3, q2.bytes hb⟩, ⟨by rw [eE]; exact q4, q5⟩, by rw [eK]; exact q6, fun h => (by rw [eK] at h; cases h), (q2.2 11 (by decide)).trans h11⟩, q2⟩
    rw [if_pos (by rw [nJ_i (by omega) (by omega)]; omega)]
    unfold l_Y_goes_71
    rw [pu_so, b1_so, ← q1, q6, if_pos rfl]
  · obtain ⟨J2, q1, q2, q3, q4, q5, q6⟩ := T 0 (Or.inl rfl)
    have b2' := q2.bytes hb
    have head : ∀ {X : Option Mem}, (b1 (f_Y_isLetter J2 m (J2 m 13)) fun v3 => if v3 = 0 then (b1 (f_Y_isDigit J2 m (J2 m 13)) fun v5 => if v5 = 0 then (b1 (ix (J2 m 13) 500) fun j7 => b1 (f_Y_signOf (J2 (m + 6) j7)) fun v8 => b1 (pu J2 m 15 v8) fun I10 => b1 (pu I10 m 13 ((I10 m 13) + 1)) fun I11 => some (I11)) else (b1 (pu J2 m 16 0) fun I12 => l_Y_goes_158 FU I12 m)) else (l_Y_goes_94 FU J2 m)) = X → l_Y_goes_71 (u2 J m 14 (nI (tS B n p))) m 0 = X := fun {X} hX => by
      unfold l_Y_goes_71
      rw [pu_so, b1_so, ← q1, q6, if_neg (by decide)]
      exact hX
    rw [if_neg (by rw [nJ_i (by omega) (by omega)]; omega)]
    by_cases hA : tS B n p < tA B n p
    · have hA2 : tS B n p < n ∧ inR B 97 122 (tS B n p) := rn_in (Nat.le_refl _) hA
      have eE : tE B n p = tA B n p := by unfold tE; rw [if_pos hA]
      have eK : tK B n p = if 7 < tA B n p - tS B n p then 6 else 1 := by unfold tK; rw [if_pos hA]
      obtain ⟨J', g1, g2, g3, g4, g5⟩ := gl_go (m := m) hn (s := tS B n p) (n - tS B n p) (tS B n p) rfl (Nat.le_refl _) s1 FU (FU_up (by omega)) J2 q3 b2' q4 q5
      refine ⟨J', head ?_, ⟨⟨(g2.2 10 (by decide)).trans ((q2.2 10 (by decide)).trans h10), (g2.2 12 (by decide)).trans q3, g2.bytes b2'⟩, ⟨by rw [eE]; exact g3, g4⟩, ?_, fun h => ?_, (g2.2 11 (by decide)).trans ((q2.2 11 (by decide)).trans h11)⟩, q2.trans g2⟩
      · rw [q4, let_row hn q3 b2' (by omega), b1_so, bI_t hA2, if_neg (by decide)]
        exact g1
      · rw [g5, eK]
        show (if 7 < tA B n p - tS B n p then (0 : Int32) else 2) = _
        split <;> rfl
      · rw [eK] at h
        split at h <;> cases h
    · have hA2 : ¬ (tS B n p < n ∧ inR B 97 122 (tS B n p)) := fun z => by
        have : tA B n p = rn B 97 122 n (tS B n p + 1) := rn_y z
        have h9 : tS B n p + 1 ≤ rn B 97 122 n (tS B n p + 1) := rn_ge
        omega
      by_cases hD : tS B n p < tD B n p
      · have hD2 : tS B n p < n ∧ inR B 48 57 (tS B n p) := rn_in (Nat.le_refl _) hD
        have eE : tE B n p = tD B n p := by unfold tE; rw [if_neg hA, if_pos hD]
        have eK : tK B n p = if 3 < tD B n p - tS B n p then 6 else 2 := by unfold tK; rw [if_neg hA, if_pos hD]
        obtain ⟨J', g1, g2, g3, g4, g5, g6⟩ := gd_go (B := B) (m := m) hn (s := tS B n p) (n - tS B n p) (tS B n p) rfl (Nat.le_refl _) s1 (fun j hj => absurd hj (by omega)) FU (FU_up (by omega)) (u2 J2 m 16 0) (by rw [u2_k (by decide)]; exact q3) (fun i hi => by rw [u2_a (by omega)]; exact b2' i hi) (by rw [u2_k (by decide)]; exact q4) (by rw [u2_k (by decide)]; exact q5) (by rw [u2_s, Nat.sub_self]; rfl)
        have g2' : Jt J2 J' m := (Jt.u (by omega)).trans g2
        refine ⟨J', head ?_, ⟨⟨(g2'.2 10 (by decide)).trans ((q2.2 10 (by decide)).trans h10), (g2'.2 12 (by decide)).trans q3, g2'.bytes b2'⟩, ⟨by rw [eE]; exact g3, g4⟩, ?_, fun h => ?_, (g2'.2 11 (by decide)).trans ((q2.2 11 (by decide)).trans h11)⟩, q2.trans g2'⟩
        · rw [q4, let_row hn q3 b2' (by omega), b1_so, bI_f hA2, if_pos rfl, dig_row hn q3 b2' (by omega), b1_so, bI_t hD2, if_neg (by decide), pu_so, b1_so]
          exact g1
        · rw [g5, eK]
          show (if 3 < tD B n p - tS B n p then (0 : Int32) else 3) = _
          split <;> rfl
        · rw [g6]
          have g9 : rn B 48 57 n (tS B n p) = tD B n p := rfl
          rw [g9]
          obtain ⟨k1, k2, k3⟩ := tK_2 h
          unfold tV
          rw [k1]
          rw [show min (tD B n p - tS B n p) 3 = tD B n p - tS B n p by omega]
      · have hD2 : ¬ (tS B n p < n ∧ inR B 48 57 (tS B n p)) := fun z => by
          have : tD B n p = rn B 48 57 n (tS B n p + 1) := rn_y z
          have h9 : tS B n p + 1 ≤ rn B 48 57 n (tS B n p + 1) := rn_ge
          omega
        have eE : tE B n p = tS B n p + 1 := by unfold tE; rw [if_neg hA, if_neg hD, if_neg hN]
        have eK : tK B n p = sgn (B (tS B n p)) := by unfold tK; rw [if_neg hA, if_neg hD, if_neg hN]
        refine ⟨u2 (u2 J2 m 15 (nI (kc (sgn (B (tS B n p)))))) m 13 (nI (tS B n p + 1)), head ?_, ⟨⟨?_, ?_, fun i hi => ?_⟩, ⟨by rw [eE]; exact u2_s, ?_⟩, ?_, fun h => ?_, by rw [u2_k (by decide), u2_k (by decide)]; exact (q2.2 11 (by decide)).trans h11⟩, q2.trans ((Jt.u (by omega)).trans (Jt.u (by omega)))⟩
        · rw [q4, let_row hn q3 b2' (by omega), b1_so, bI_f hA2, if_pos rfl, dig_row hn q3 b2' (by omega), b1_so, bI_f hD2, if_pos rfl, ix_n (by omega) (by decide), b1_so, b2' _ (by omega), sg_row, b1_so, pu_so, b1_so, u2_k (by decide), q4, nI_s1, pu_so, b1_so]
        · rw [u2_k (by decide), u2_k (by decide)]; exact (q2.2 10 (by decide)).trans h10
        · rw [u2_k (by decide), u2_k (by decide)]; exact q3
        · rw [u2_a (by omega), u2_a (by omega)]; exact b2' i hi
        · rw [u2_k (by decide), u2_k (by decide)]; exact q5
        · rw [u2_k (by decide), u2_s, eK]
        · rw [eK] at h
          have := sgn_c (x := B (tS B n p))
          omega
theorem g8_go (hn : n ≤ 500) : ∀ d q, n - q = d → q ≤ n → ∀ f, d < f → ∀ J, J m 12 = nI n → (∀ i, i < n → J (m + 6) i = B i) → J m 13 = nI q → ∃ J', l_Y_goes_8 f J m = l_Y_goes_46 J' m ∧ Jt J J' m ∧ J' m 13 = nI (rn B 32 32 n q) := by
  intro d
  induction d with
  | zero =>
    intro q hd hq f hf J h12 hb h13
    obtain ⟨f, rfl⟩ : ∃ g, f = g + 1 := ⟨f - 1, by omega⟩
    refine ⟨J, ?_, Jt.refl, by rw [rn_n (fun z => by omega)]; exact h13⟩
    show (if (J m 12) ≤ (J m 13) then _ else _) = _
    rw [h12, h13, if_pos (by rw [ile (by omega) (by omega)]; omega)]
  | succ d ih =>
    intro q hd hq f hf J h12 hb h13
    obtain ⟨f, rfl⟩ : ∃ g, f = g + 1 := ⟨f - 1, by omega⟩
    have hq32 : inR B 32 32 q ↔ B q = 32 := by
      unfold inR
      rw [Int32.lt_iff_toInt_lt, Int32.lt_iff_toInt_lt, ← Int32.toInt_inj]
      omega
    by_cases h : B q = 32
    · obtain ⟨J', g1, g2, g3⟩ := ih (q + 1) (by omega) (by omega) f (by omega) (u2 J m 13 (nI (q + 1))) (by rw [u2_k (by decide)]; exact h12) (fun i hi => by rw [u2_a (by omega)]; exact hb i hi) u2_s
      refine ⟨J', ?_, (Jt.u (by omega)).trans g2, by rw [rn_y ⟨by omega, hq32.mpr h⟩]; exact g3⟩
      show (if (J m 12) ≤ (J m 13) then _ else (b1 (ix (J m 13) 500) fun j26 => if (J (m + 6) j26) = 32 then (b1 (pu J m 13 ((J m 13) + 1)) fun I27 => l_Y_goes_8 f I27 m) else _)) = _
      rw [h12, h13, if_neg (by rw [ile (by omega) (by omega)]; omega), ix_n (by omega) (by decide), b1_so, hb q (by omega), if_pos h, nI_s1, pu_so, b1_so]
      exact g1
    · refine ⟨J, ?_, Jt.refl, by rw [rn_n (fun z => h (hq32.mp z.2))]; exact h13⟩
      show (if (J m 12) ≤ (J m 13) then _ else (b1 (ix (J m 13) 500) fun j26 => if (J (m + 6) j26) = 32 then _ else (l_Y_goes_46 J m))) = _
      rw [h12, h13, if_neg (by rw [ile (by omega) (by omega)]; omega), ix_n (by omega) (by decide), b1_so, hb q (by omega), if_neg h]
theorem goes_row (hn : n ≤ 500) (hp : p ≤ n) (R : RBnd J m B n p) : ∃ J', f_Y_goes J m = some J' ∧ RTok J' m B n p ∧ Jt J J' m := by
  obtain ⟨⟨h10, h12, hb⟩, h13, h11⟩ := R
  obtain ⟨J1, g1, g2, g3⟩ := g8_go (m := m) hn (n - p) p rfl hp FU (FU_up (by omega)) J h12 hb h13
  obtain ⟨J2, q1, q2, q3⟩ := u71 hn hp ((g2.2 10 (by decide)).trans h10) ((g2.2 11 (by decide)).trans h11) ((g2.2 12 (by decide)).trans h12) (g2.bytes hb) g3
  refine ⟨J2, ?_, q2, g2.trans q3⟩
  unfold f_Y_goes
  rw [h10, if_pos (by decide), g1, q1]
theorem RTok.bnd (R : RTok J m B n p) : RBnd J m B n (tE B n p) := ⟨R.1, R.2.1.1, R.2.2.2.2⟩
end RSC

