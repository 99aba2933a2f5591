/-! building the law's market -/
section BLD
variable {I I1 I' I2 : Mem} {K K1 K' K2 : Kt} {a r k x ns : Nat}
theorem an_15 (x : Int32) : ∃ b, x &&& 15 = nI b ∧ b < 16 := ⟨_, an_m x (k := 4) (by decide), Nat.mod_lt _ (by decide)⟩
theorem an_31 (x : Int32) : ∃ b, x &&& 31 = nI b ∧ b < 32 := ⟨_, an_m x (k := 5) (by decide), Nat.mod_lt _ (by decide)⟩
theorem an_63 (x : Int32) : ∃ b, x &&& 63 = nI b ∧ b < 64 := ⟨_, an_m x (k := 6) (by decide), Nat.mod_lt _ (by decide)⟩
theorem an_127 (x : Int32) : ∃ b, x &&& 127 = nI b ∧ b < 128 := ⟨_, an_m x (k := 7) (by decide), Nat.mod_lt _ (by decide)⟩
theorem md_g {b m : Nat} (hb : b < 2147483648) (h0 : 0 < m) (h1 : m < 1000) : nI b - nI b / nI m * nI m = nI (b % m) :=
  sDay_n (N := fun j => if j = 1 then nI b else nI m) rfl rfl h0 h1 hb
theorem nz_n {m : Nat} (h0 : 0 < m) (h1 : m < 1000) : nz (nI m) = some () := by
  refine nz_so ?_
  rw [show (0 : Int32) = nI 0 from rfl, nJ_i (by omega) (by omega)]
  omega
/-- what changes at a list with array r, and behind -/
def Kc (K K' : Kt) (a r : Nat) : Prop := (kN K ≤ kN K' ∧ gz K' ≤ gz K + 1000 * (kN K' - kN K)) ∧ (∀ c, c < kN K → kS K' c = kS K c) ∧ ∀ c, c < kN K → c ≠ a → c ≠ r → kG K' c = kG K c
def Ic (I I' : Mem) (n a r : Nat) : Prop := ∀ c, c < n → c ≠ a → c ≠ r → I' c = I c
theorem LO.kc {ci c : Nat} (h : LO K ci c) (g : Kc K K' a r) : LO K' ci c := ⟨by rw [g.2.1 c h.2]; exact h.1, Nat.lt_of_lt_of_le h.2 g.1.1⟩
theorem LA.kc {ci n c : Nat} (h : LA K ci n c) (g : Kc K K' a r) : LA K' ci n c := ⟨by rw [g.2.1 c h.2]; exact h.1, Nat.lt_of_lt_of_le h.2 g.1.1⟩
theorem AL.kc {b s j : Nat} (h : AL K I b s j) (g : Kc K K' a r) (i : Ic I I' (kN K) a r) (h1 : b ≠ a) (h2 : b ≠ r) : AL K' I' b s j :=
  ⟨h.1.kc g, by rw [i b h.1.2 h1 h2]; exact h.2.1, h.2.2.imp (fun z => ⟨z.1, by rw [g.2.2 b h.1.2 h1 h2]; exact z.2⟩) (fun z => ⟨z.1, by rw [g.2.2 b h.1.2 h1 h2]; exact z.2.1, z.2.2.kc g⟩)⟩
/-- a new object, filled and put into a list -/
theorem AL.obj {ci n : Nat} (A : AL K I a r k) (hI : ∀ c, c ≠ kN K → I1 c = I c) (hr : k = 0 → kN K + 1 = r) (har : a ≠ r) (hk : k < 10) (hL : kN K < 800000) (hc : ci = 9 ∨ ci = 10 ∨ ci = 100) (hn : n ≤ 1000) :
    ∃ I2 K2, f_Jx4a65c_add_9ea2d I1 (kNew K (ci, n)) a (kN K) = some (1, I2, K2) ∧ AL K2 I2 a r (k + 1) ∧ kG K2 r k = some (kN K) ∧ kN K2 = kN K + (if k = 0 then 2 else 1) ∧ Kc K K2 a r ∧ Ic I I2 (kN K) a r ∧ I2 (kN K) = I1 (kN K) ∧ kS K2 (kN K) = (ci, n) ∧ ∀ j, 1 ≤ k → j ≠ k → kG K2 r j = kG K r j := by
  have ha : a < kN K := A.1.2
  have hrk : 1 ≤ k → r < kN K := fun h => by
    rcases A.2.2 with z | z
    · omega
    · exact z.2.2.2
  have hrn : r ≠ kN K := by
    by_cases h : k = 0
    · have := hr h; omega
    · have := hrk (by omega); omega
  have A1 : AL (kNew K (ci, n)) I1 a r k := ⟨A.1.nw, by rw [hI a (by omega)]; exact A.2.1, A.2.2.imp (fun z => ⟨z.1, by rw [kn_g (by omega)]; exact z.2⟩) (fun z => ⟨z.1, by rw [kn_g (by omega)]; exact z.2.1, z.2.2.nw⟩)⟩
  obtain ⟨I2, K2, e, B, g, hN, hz, f1, f2, f3, f4⟩ := A1.add (x := kN K) (fun h => hr h) hk (by
    refine if_pos ⟨?_, Nat.lt_succ_self _⟩
    rw [kn_S]
    rcases hc with h | h | h
    · exact Or.inl h
    · exact Or.inr (Or.inl h)
    · exact Or.inr (Or.inr h)) (by show kN K + 1 < 900000; omega) har
  have hN' : kN K2 = kN K + 1 + if k = 0 then 1 else 0 := hN
  refine ⟨I2, K2, e, B, g, by rw [hN']; split <;> omega, ⟨⟨by omega, ?_⟩, fun c hc => ?_, fun c hc c1 c2 => ?_⟩, fun c hc c1 c2 => ?_, f1 _ (by omega) (by omega), ?_, fun j h1 h2 => ?_⟩
  · have hz' : gz K2 ≤ gz (kNew K (ci, n)) + 1000 * (kN K2 - (kN K + 1)) := hz
    rw [gz_new] at hz'
    have : kN K + 1 ≤ kN K2 := by omega
    show gz K2 ≤ gz K + 1000 * (kN K2 - kN K)
    have h9 : gz K2 ≤ gz K + n + 1000 * (kN K2 - (kN K + 1)) := hz'
    omega
  · rw [f2 c (Nat.lt_succ_of_lt hc), kn_s (by omega)]
  · rw [f3 c (Nat.lt_succ_of_lt hc) c1 c2, kn_g (by omega)]
  · rw [f1 c c1 c2, hI c (by omega)]
  · rw [f2 _ (Nat.lt_succ_self _), kn_S]
  · rw [f4 j h1 h2, kn_g hrn]
end BLD
