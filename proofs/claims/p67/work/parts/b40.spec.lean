/-! THE MEANING: what the methods answer, over the 355 numbers of the reference -/
section SP
variable {α β γ δ : Type}
theorem b1_so {a : α} {f : α → Option δ} : b1 (some a) f = f a := rfl
theorem b2_so {a : α} {b : β} {f : α → β → Option δ} : b2 (some (a, b)) f = f a b := rfl
theorem b3_so {a : α} {b : β} {c : γ} {f : α → β → γ → Option δ} : b3 (some (a, b, c)) f = f a b c := rfl
theorem e1_ok {a : α} {g : String → Option δ} {f : α → Option δ} : e1 (some (.ok a)) g f = f a := rfl
theorem e1_er {E : String} {g : String → Option δ} {f : α → Option δ} : e1 (some (.error E)) g f = g E := rfl
theorem e2_ok {a : α} {b : β} {g : String → β → Option δ} {f : α → β → Option δ} : e2 (some (.ok a, b)) g f = f a b := rfl
theorem e2_er {E : String} {b : β} {g : String → β → Option δ} {f : α → β → Option δ} : e2 (some (.error E, b)) g f = g E b := rfl
theorem e3_ok {a : α} {b : β} {c : γ} {g : String → β → γ → Option δ} {f : α → β → γ → Option δ} : e3 (some (.ok a, b, c)) g f = f a b c := rfl
theorem e3_er {E : String} {b : β} {c : γ} {g : String → β → γ → Option δ} {f : α → β → γ → Option δ} : e3 (some (.error E, b, c)) g f = g E b c := rfl
end SP
theorem bI_so {c : Prop} [Decidable c] : (if c then some (1 : Int32) else some 0) = some (bI c) := by unfold bI; split <;> rfl
theorem bI_so' {c : Prop} [Decidable c] : (if c then some (0 : Int32) else some 1) = some (bI (¬ c)) := by
  by_cases h : c
  · rw [if_pos h, bI_f (fun h9 => h9 h)]
  · rw [if_neg h, bI_t h]
theorem bI_0 {c : Prop} [Decidable c] : (bI c = 0) = ¬ c := by
  by_cases h : c
  · rw [bI_t h]; simp [h]
  · rw [bI_f h]; simp [h]
theorem bI_1 {c : Prop} [Decidable c] : (bI c = 1) = c := by
  by_cases h : c
  · rw [bI_t h]; simp [h]
  · rw [bI_f h]; simp [h]
theorem cB_bI {c : Prop} [Decidable c] : cB (bI c) = some () := by
  unfold cB bI
  split <;> simp
theorem nJ_i {a b : Nat} (ha : a < 2147483648) (hb : b < 2147483648) : (nI a = nI b) = (a = b) := by
  refine propext ⟨fun h => ?_, fun h => by rw [h]⟩
  have h1 : (nI a).toInt = (nI b).toInt := by rw [h]
  rw [nI_toInt (by omega), nI_toInt (by omega)] at h1
  omega
theorem nJ_l {a b : Nat} (ha : a < 2147483648) (hb : b < 2147483648) : (nI a < nI b) = (a < b) := by
  refine propext ⟨fun h => ?_, fun h => nI_lt h (by omega)⟩
  apply Classical.byContradiction
  intro h9
  exact nI_nlt (by omega) (by omega) h
theorem nJ_e {a b : Nat} (ha : a < 2147483648) (hb : b < 2147483648) : (nI a ≤ nI b) = (a ≤ b) := by
  refine propext ⟨fun h => ?_, fun h => nI_le h (by omega)⟩
  apply Classical.byContradiction
  intro h9
  exact nI_ge (by omega) (by omega) h
theorem nJ_et {a b : Nat} (h : a ≤ b) (hb : b < 2147483648) : (nI a ≤ nI b) = True := by rw [nJ_e (by omega) hb]; exact eq_true h
theorem nJ_ef {a b : Nat} (h : b < a) (hb : a < 2147483648) : (nI a ≤ nI b) = False := by rw [nJ_e hb (by omega)]; exact eq_false (by omega)
theorem nJ_lt {a b : Nat} (h : a < b) (hb : b < 2147483648) : (nI a < nI b) = True := by rw [nJ_l (by omega) hb]; exact eq_true h
theorem nJ_lf {a b : Nat} (h : b ≤ a) (hb : a < 2147483648) : (nI a < nI b) = False := by rw [nJ_l hb (by omega)]; exact eq_false (by omega)
theorem nI_s1 {i : Nat} : nI i + 1 = nI (i + 1) := (nI_succ i).symm
/-- a loop upwards -/
theorem up_loop {σ ρ : Type} (l : Nat → σ → Option ρ) (st : Nat → σ) (n : Nat) (r : Option ρ) (hs : ∀ i, i < n → ∀ f, l (f + 1) (st i) = l f (st (i + 1))) (hx : ∀ f, l (f + 1) (st n) = r) {F : Nat} (hF : n < F) : l F (st 0) = r := by
  have key : ∀ k, k ≤ n → ∀ f, l (k + f + 1) (st (n - k)) = r := by
    intro k
    induction k with
    | zero => intro _ f; rw [Nat.zero_add]; exact hx f
    | succ k ih =>
      intro hk f
      have h1 := hs (n - (k + 1)) (by omega) (k + f + 1)
      rw [show n - (k + 1) + 1 = n - k by omega, ih (by omega) f] at h1
      rw [show k + 1 + f + 1 = k + f + 1 + 1 by omega]
      exact h1
  have h2 := key n (Nat.le_refl n) (F - n - 1)
  rw [Nat.sub_self, show n + (F - n - 1) + 1 = F by omega] at h2
  exact h2
theorem FU_up {n : Nat} (h : n < 1000000000) : n < FU := Nat.lt_of_lt_of_le h FU_ge
/-- the numbers of a wish, a person, a stall -/
def wN (N : Nat → Int32) (w k : Nat) : Int32 := N (115 + 15 * w + k)
def pN (N : Nat → Int32) (p k : Nat) : Int32 := N (11 + 14 * p + k)
def sN (N : Nat → Int32) (s k : Nat) : Int32 := N (95 + 4 * s + k)
/-- the memory with other numbers in it -/
def sM (I : Mem) (m : Nat) (N : Nat → Int32) : Mem := fun a => if a = m + 1 then N else I a
theorem sM_s {I : Mem} {m : Nat} {N : Nat → Int32} : sM I m N (m + 1) = N := if_pos rfl
theorem sM_n {I : Mem} {m a : Nat} {N : Nat → Int32} (h : a ≠ m + 1) : sM I m N a = I a := if_neg h
theorem sM_i {I : Mem} {m : Nat} : sM I m (I (m + 1)) = I := by
  funext a
  unfold sM
  split
  · next h => rw [h]
  · rfl
theorem pu_sM {I : Mem} {m j : Nat} {N : Nat → Int32} {x : Int32} : pu (sM I m N) (m + 1) j x = some (sM I m (upd N j x)) := by
  unfold pu
  congr 1
  funext a
  by_cases h : a = m + 1
  · subst h
    rw [u2_upd, sM_s, sM_s]
  · rw [u2_a h, sM_n h, sM_n h]
theorem ixN {a : Nat} (n : Nat) {i : Int32} (hi : i = nI a) (h : a < n) (hn : n < 2147483648) : ix i n = some a := by rw [hi]; exact ix_n h hn
theorem n115 {w k : Nat} : (115 + 15 * nI w) + nI k = nI (115 + 15 * w + k) := by
  rw [show (115 : Int32) = nI 115 from rfl, show (15 : Int32) = nI 15 from rfl, pk_mul, nI_add, nI_add]
theorem n11 {w k : Nat} : (11 + 14 * nI w) + nI k = nI (11 + 14 * w + k) := by
  rw [show (11 : Int32) = nI 11 from rfl, show (14 : Int32) = nI 14 from rfl, pk_mul, nI_add, nI_add]
theorem n95 {w k : Nat} : (95 + 4 * nI w) + nI k = nI (95 + 4 * w + k) := by
  rw [show (95 : Int32) = nI 95 from rfl, show (4 : Int32) = nI 4 from rfl, pk_mul, nI_add, nI_add]
section SR
variable {I : Mem} {m : Nat} {N : Nat → Int32}
theorem r_ofWish {w k : Nat} (hw : w < 16) (hk : k < 15) : f_Y_ofWish (sM I m N) m (nI w) (nI k) = some (wN N w k) := by
  unfold f_Y_ofWish
  rw [ixN 355 n115 (by omega) (by decide), b1_so, sM_s]
  rfl
theorem r_ofPerson {w k : Nat} (hw : w < 6) (hk : k < 14) : f_Y_ofPerson (sM I m N) m (nI w) (nI k) = some (pN N w k) := by
  unfold f_Y_ofPerson
  rw [ixN 355 n11 (by omega) (by decide), b1_so, sM_s]
  rfl
theorem r_ofStall {w k : Nat} (hw : w < 5) (hk : k < 4) : f_Y_ofStall (sM I m N) m (nI w) (nI k) = some (sN N w k) := by
  unfold f_Y_ofStall
  rw [ixN 355 n95 (by omega) (by decide), b1_so, sM_s]
  rfl
theorem r_putsWish {w k : Nat} {x : Int32} (hw : w < 16) (hk : k < 15) : f_Y_putsWish (sM I m N) m (nI w) (nI k) x = some (sM I m (upd N (115 + 15 * w + k) x)) := by
  unfold f_Y_putsWish
  rw [ixN 355 n115 (by omega) (by decide), b1_so, pu_sM]
  rfl
theorem r_putsPerson {w k : Nat} {x : Int32} (hw : w < 6) (hk : k < 14) : f_Y_putsPerson (sM I m N) m (nI w) (nI k) x = some (sM I m (upd N (11 + 14 * w + k) x)) := by
  unfold f_Y_putsPerson
  rw [ixN 355 n11 (by omega) (by decide), b1_so, pu_sM]
  rfl
theorem r_putsStall {w k : Nat} {x : Int32} (hw : w < 5) (hk : k < 4) : f_Y_putsStall (sM I m N) m (nI w) (nI k) x = some (sM I m (upd N (95 + 4 * w + k) x)) := by
  unfold f_Y_putsStall
  rw [ixN 355 n95 (by omega) (by decide), b1_so, pu_sM]
  rfl
theorem rfw0 {w : Nat} (hw : w < 16) : f_Y_ofWish (sM I m N) m (nI w) 0 = some (wN N w 0) := r_ofWish (k := 0) hw (by decide)
theorem rfw1 {w : Nat} (hw : w < 16) : f_Y_ofWish (sM I m N) m (nI w) 1 = some (wN N w 1) := r_ofWish (k := 1) hw (by decide)
theorem rfw2 {w : Nat} (hw : w < 16) : f_Y_ofWish (sM I m N) m (nI w) 2 = some (wN N w 2) := r_ofWish (k := 2) hw (by decide)
theorem rfw3 {w : Nat} (hw : w < 16) : f_Y_ofWish (sM I m N) m (nI w) 3 = some (wN N w 3) := r_ofWish (k := 3) hw (by decide)
theorem rfw4 {w : Nat} (hw : w < 16) : f_Y_ofWish (sM I m N) m (nI w) 4 = some (wN N w 4) := r_ofWish (k := 4) hw (by decide)
theorem rfw5 {w : Nat} (hw : w < 16) : f_Y_ofWish (sM I m N) m (nI w) 5 = some (wN N w 5) := r_ofWish (k := 5) hw (by decide)
theorem rfw6 {w : Nat} (hw : w < 16) : f_Y_ofWish (sM I m N) m (nI w) 6 = some (wN N w 6) := r_ofWish (k := 6) hw (by decide)
theorem rfw7 {w : Nat} (hw : w < 16) : f_Y_ofWish (sM I m N) m (nI w) 7 = some (wN N w 7) := r_ofWish (k := 7) hw (by decide)
theorem rfw8 {w : Nat} (hw : w < 16) : f_Y_ofWish (sM I m N) m (nI w) 8 = some (wN N w 8) := r_ofWish (k := 8) hw (by decide)
theorem rfw9 {w : Nat} (hw : w < 16) : f_Y_ofWish (sM I m N) m (nI w) 9 = some (wN N w 9) := r_ofWish (k := 9) hw (by decide)
theorem rfw10 {w : Nat} (hw : w < 16) : f_Y_ofWish (sM I m N) m (nI w) 10 = some (wN N w 10) := r_ofWish (k := 10) hw (by decide)
theorem rfw11 {w : Nat} (hw : w < 16) : f_Y_ofWish (sM I m N) m (nI w) 11 = some (wN N w 11) := r_ofWish (k := 11) hw (by decide)
theorem rfw12 {w : Nat} (hw : w < 16) : f_Y_ofWish (sM I m N) m (nI w) 12 = some (wN N w 12) := r_ofWish (k := 12) hw (by decide)
theorem rfw13 {w : Nat} (hw : w < 16) : f_Y_ofWish (sM I m N) m (nI w) 13 = some (wN N w 13) := r_ofWish (k := 13) hw (by decide)
theorem rfw14 {w : Nat} (hw : w < 16) : f_Y_ofWish (sM I m N) m (nI w) 14 = some (wN N w 14) := r_ofWish (k := 14) hw (by decide)
theorem rfp0 {w : Nat} (hw : w < 6) : f_Y_ofPerson (sM I m N) m (nI w) 0 = some (pN N w 0) := r_ofPerson (k := 0) hw (by decide)
theorem rfp1 {w : Nat} (hw : w < 6) : f_Y_ofPerson (sM I m N) m (nI w) 1 = some (pN N w 1) := r_ofPerson (k := 1) hw (by decide)
theorem rfp2 {w : Nat} (hw : w < 6) : f_Y_ofPerson (sM I m N) m (nI w) 2 = some (pN N w 2) := r_ofPerson (k := 2) hw (by decide)
theorem rfp3 {w : Nat} (hw : w < 6) : f_Y_ofPerson (sM I m N) m (nI w) 3 = some (pN N w 3) := r_ofPerson (k := 3) hw (by decide)
theorem rfp4 {w : Nat} (hw : w < 6) : f_Y_ofPerson (sM I m N) m (nI w) 4 = some (pN N w 4) := r_ofPerson (k := 4) hw (by decide)
theorem rfp5 {w : Nat} (hw : w < 6) : f_Y_ofPerson (sM I m N) m (nI w) 5 = some (pN N w 5) := r_ofPerson (k := 5) hw (by decide)
theorem rfp6 {w : Nat} (hw : w < 6) : f_Y_ofPerson (sM I m N) m (nI w) 6 = some (pN N w 6) := r_ofPerson (k := 6) hw (by decide)
theorem rfs0 {w : Nat} (hw : w < 5) : f_Y_ofStall (sM I m N) m (nI w) 0 = some (sN N w 0) := r_ofStall (k := 0) hw (by decide)
theorem rfs1 {w : Nat} (hw : w < 5) : f_Y_ofStall (sM I m N) m (nI w) 1 = some (sN N w 1) := r_ofStall (k := 1) hw (by decide)
theorem rfs2 {w : Nat} (hw : w < 5) : f_Y_ofStall (sM I m N) m (nI w) 2 = some (sN N w 2) := r_ofStall (k := 2) hw (by decide)
theorem rfs3 {w : Nat} (hw : w < 5) : f_Y_ofStall (sM I m N) m (nI w) 3 = some (sN N w 3) := r_ofStall (k := 3) hw (by decide)
theorem rwp0 {w : Nat} {x : Int32} (hw : w < 16) : f_Y_putsWish (sM I m N) m (nI w) 0 x = some (sM I m (upd N (115 + 15 * w + 0) x)) := r_putsWish (k := 0) hw (by decide)
theorem rwp1 {w : Nat} {x : Int32} (hw : w < 16) : f_Y_putsWish (sM I m N) m (nI w) 1 x = some (sM I m (upd N (115 + 15 * w + 1) x)) := r_putsWish (k := 1) hw (by decide)
theorem rwp2 {w : Nat} {x : Int32} (hw : w < 16) : f_Y_putsWish (sM I m N) m (nI w) 2 x = some (sM I m (upd N (115 + 15 * w + 2) x)) := r_putsWish (k := 2) hw (by decide)
theorem rwp3 {w : Nat} {x : Int32} (hw : w < 16) : f_Y_putsWish (sM I m N) m (nI w) 3 x = some (sM I m (upd N (115 + 15 * w + 3) x)) := r_putsWish (k := 3) hw (by decide)
theorem rwp4 {w : Nat} {x : Int32} (hw : w < 16) : f_Y_putsWish (sM I m N) m (nI w) 4 x = some (sM I m (upd N (115 + 15 * w + 4) x)) := r_putsWish (k := 4) hw (by decide)
theorem rwp5 {w : Nat} {x : Int32} (hw : w < 16) : f_Y_putsWish (sM I m N) m (nI w) 5 x = some (sM I m (upd N (115 + 15 * w + 5) x)) := r_putsWish (k := 5) hw (by decide)
theorem rwp6 {w : Nat} {x : Int32} (hw : w < 16) : f_Y_putsWish (sM I m N) m (nI w) 6 x = some (sM I m (upd N (115 + 15 * w + 6) x)) := r_putsWish (k := 6) hw (by decide)
theorem rwp7 {w : Nat} {x : Int32} (hw : w < 16) : f_Y_putsWish (sM I m N) m (nI w) 7 x = some (sM I m (upd N (115 + 15 * w + 7) x)) := r_putsWish (k := 7) hw (by decide)
theorem rpp0 {w : Nat} {x : Int32} (hw : w < 6) : f_Y_putsPerson (sM I m N) m (nI w) 0 x = some (sM I m (upd N (11 + 14 * w + 0) x)) := r_putsPerson (k := 0) hw (by decide)
theorem rpp1 {w : Nat} {x : Int32} (hw : w < 6) : f_Y_putsPerson (sM I m N) m (nI w) 1 x = some (sM I m (upd N (11 + 14 * w + 1) x)) := r_putsPerson (k := 1) hw (by decide)
theorem rpp2 {w : Nat} {x : Int32} (hw : w < 6) : f_Y_putsPerson (sM I m N) m (nI w) 2 x = some (sM I m (upd N (11 + 14 * w + 2) x)) := r_putsPerson (k := 2) hw (by decide)
theorem rpp3 {w : Nat} {x : Int32} (hw : w < 6) : f_Y_putsPerson (sM I m N) m (nI w) 3 x = some (sM I m (upd N (11 + 14 * w + 3) x)) := r_putsPerson (k := 3) hw (by decide)
theorem rpp4 {w : Nat} {x : Int32} (hw : w < 6) : f_Y_putsPerson (sM I m N) m (nI w) 4 x = some (sM I m (upd N (11 + 14 * w + 4) x)) := r_putsPerson (k := 4) hw (by decide)
theorem rpp5 {w : Nat} {x : Int32} (hw : w < 6) : f_Y_putsPerson (sM I m N) m (nI w) 5 x = some (sM I m (upd N (11 + 14 * w + 5) x)) := r_putsPerson (k := 5) hw (by decide)
theorem rpp6 {w : Nat} {x : Int32} (hw : w < 6) : f_Y_putsPerson (sM I m N) m (nI w) 6 x = some (sM I m (upd N (11 + 14 * w + 6) x)) := r_putsPerson (k := 6) hw (by decide)
theorem rsp0 {w : Nat} {x : Int32} (hw : w < 5) : f_Y_putsStall (sM I m N) m (nI w) 0 x = some (sM I m (upd N (95 + 4 * w + 0) x)) := r_putsStall (k := 0) hw (by decide)
theorem rsp1 {w : Nat} {x : Int32} (hw : w < 5) : f_Y_putsStall (sM I m N) m (nI w) 1 x = some (sM I m (upd N (95 + 4 * w + 1) x)) := r_putsStall (k := 1) hw (by decide)
theorem rsp2 {w : Nat} {x : Int32} (hw : w < 5) : f_Y_putsStall (sM I m N) m (nI w) 2 x = some (sM I m (upd N (95 + 4 * w + 2) x)) := r_putsStall (k := 2) hw (by decide)
theorem rsp3 {w : Nat} {x : Int32} (hw : w < 5) : f_Y_putsStall (sM I m N) m (nI w) 3 x = some (sM I m (upd N (95 + 4 * w + 3) x)) := r_putsStall (k := 3) hw (by decide)
end SR
