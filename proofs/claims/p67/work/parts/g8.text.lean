/-! the law's text -/
section TXT2
variable {I I0 I1 I' I2 : Mem} {K K0 K1 K' K2 : Kt} {b r cap kb x ns y B : Nat} {L T : List Nat}
/-- a cell as a number -/
def vN (I : Mem) (a k : Nat) : Nat := (I a k).toInt.toNat
theorem vN_e {a k n : Nat} (h : I a k = nI n) (hn : n < 2147483648) : vN I a k = n := by
  unfold vN
  rw [h, nI_toInt hn]
  rfl
theorem vN_n {a k n : Nat} (h : I a k = nI n) (hn : n < 2147483648) : I a k = nI (vN I a k) := by rw [vN_e h hn]; exact h
/-- printing goes on: behind the law's market, so far L, no more than B bytes -/
def TW (ns : Nat) (K0 : Kt) (I0 : Mem) (K : Kt) (I : Mem) (b : Nat) (L : List Nat) (B : Nat) : Prop := TS (428 + ns) K0 I0 K I b L ∧ L.length ≤ B
theorem HB.tb (H : HB K0 I0 ns ns 2 4) (hk : kN K0 = 428 + ns) (hn : ns ≤ 2) (t : TB (428 + ns) K0 K I0 I) : HB K I ns ns 2 4 := by
  have lo : ∀ {ci c : Nat}, LO K0 ci c → LO K ci c := fun {ci c} h => ⟨by rw [(t.2 c (by have := h.2; omega)).2.1]; exact h.1, by have := h.2; have := t.1.1; omega⟩
  have la : ∀ {ci n c : Nat}, LA K0 ci n c → LA K ci n c := fun {ci n c} h => ⟨by rw [(t.2 c (by have := h.2; omega)).2.1]; exact h.1, by have := h.2; have := t.1.1; omega⟩
  have gg : ∀ {c : Nat}, c < 428 + ns → kG K c = kG K0 c := fun {c} h => (t.2 c h).2.2
  have al : ∀ {a r k : Nat}, AL K0 I0 a r k → AL K I a r k := fun {a r k} A => by
    have ha := A.1.2
    exact ⟨lo A.1, by rw [(t.2 a (by omega)).1]; exact A.2.1, A.2.2.imp (fun z => ⟨z.1, by rw [gg (by omega)]; exact z.2⟩) (fun z => ⟨z.1, by rw [gg (by omega)]; exact z.2.1, la z.2.2⟩)⟩
  refine ⟨⟨⟨lo H.m, by rw [gg (by omega)]; exact H.g7⟩, by rw [gg (by omega)]; exact H.g8, by rw [gg (by omega)]; exact H.g9⟩, ⟨al H.lp, al H.ls, al H.lw⟩, fun i hi => ?_, fun i hi => ?_, fun i hi => ?_⟩
  · rw [gg (by omega)]; exact ⟨(H.2.2.1 i hi).1, la (H.2.2.1 i hi).2⟩
  · rw [gg (by omega)]; exact ⟨(H.2.2.2.1 i hi).1, lo (H.2.2.2.1 i hi).2⟩
  · rw [gg (by omega)]; exact ⟨(H.2.2.2.2 i hi).1, lo (H.2.2.2.2 i hi).2⟩
theorem TW.h (S : TW ns K0 I0 K I b L B) (H : HB K0 I0 ns ns 2 4) (hk : kN K0 = 428 + ns) (hn : ns ≤ 2) : HB K I ns ns 2 4 := by
  obtain ⟨⟨r, cap, -, -, t, -⟩, -⟩ := S
  exact H.tb hk hn t
theorem TW.i (S : TW ns K0 I0 K I b L B) {a : Nat} (h : a < 428 + ns) : I a = I0 a := by
  obtain ⟨⟨r, cap, -, -, t, -⟩, -⟩ := S
  exact (t.2 a h).1
theorem TW.o (S : TW ns K0 I0 K I b L B) : LO K 0 b := S.1.o
theorem TW.str {n : Nat} (S : TW ns K0 I0 K I b L B) (hx : x < 42) (hl : (sBy x).length = n) (hB : B ≤ 450) (hn : ns ≤ 2) : ∃ I1 K1, f_J4_append_15ec4 I K b x = some (b, I1, K1) ∧ TW ns K0 I0 K1 I1 b (L ++ sBy x) (B + n) := by
  obtain ⟨I1, K1, e, S1⟩ := S.1.str hx (Nat.le_trans S.2 hB) (by omega)
  exact ⟨I1, K1, e, S1, by rw [List.length_append, hl]; have := S.2; omega⟩
theorem dig_l3 {v : Nat} (hv : v < 1000) : (dig v).length ≤ 3 := by
  have e : (dig v).length = lg v + 1 := dgs_l _
  rcases lg_c (x := v) (by omega) with ⟨-, h⟩ | ⟨-, -, h⟩ | ⟨-, -, h⟩ | ⟨h, -, -⟩ | ⟨h, -⟩ <;> omega
theorem TW.int (S : TW ns K0 I0 K I b L B) {v : Nat} (hv : v < 1000) (hB : B ≤ 450) (hn : ns ≤ 2) : ∃ I1 K1, f_J4_append_bf812 I K b (nI v) = some (b, I1, K1) ∧ TW ns K0 I0 K1 I1 b (L ++ dig v) (B + 3) := by
  obtain ⟨I1, K1, e, S1⟩ := S.1.int hv (Nat.le_trans S.2 hB) (by omega)
  exact ⟨I1, K1, e, S1, by rw [List.length_append]; have := S.2; have := dig_l3 hv; omega⟩
theorem TW.chr (S : TW ns K0 I0 K I b L B) {c : Nat} (hc : c < 128) (hB : B ≤ 450) (hn : ns ≤ 2) : ∃ I1 K1, f_J4_append_cf468 I K b (nI c) = some (b, I1, K1) ∧ TW ns K0 I0 K1 I1 b (L ++ [c]) (B + 1) := by
  obtain ⟨I1, K1, e, S1⟩ := S.1.chr hc (Nat.le_trans S.2 hB) (by omega)
  exact ⟨I1, K1, e, S1, by rw [List.length_append]; have := S.2; show _ + 1 ≤ _; omega⟩
theorem TW.sp (S : TW ns K0 I0 K I b L B) (hB : B ≤ 450) (hn : ns ≤ 2) : ∃ I1 K1, f_J4_append_cf468 I K b 32 = some (b, I1, K1) ∧ TW ns K0 I0 K1 I1 b (L ++ [32]) (B + 1) := S.chr (c := 32) (by decide) hB hn
/-- the pieces -/
def tHd (I : Mem) : List Nat := sBy 25 ++ dig (vN I 415 0) ++ sBy 26 ++ dig (vN I 415 2) ++ sBy 27 ++ dig (vN I 415 3)
def tAu (I : Mem) : List Nat := if I 415 4 < 0 then [] else sBy 28 ++ dig (vN I 415 4)
def tTa (I : Mem) : List Nat := if I 415 5 < 0 then [] else sBy 29 ++ dig (vN I 415 5) ++ [32] ++ dig (vN I 415 6)
def tSt (I : Mem) (i : Nat) : List Nat := sBy 30 ++ dig (vN I (419 + 2 * i) 0) ++ [32] ++ dig (vN I (419 + 2 * i) 1) ++ [32] ++ dig (vN I (419 + 2 * i) 2) ++ [32] ++ dig (vN I (419 + 2 * i) 3)
def tPe (I : Mem) (ns i : Nat) : List Nat := sBy 31 ++ sBy (if i = 0 then 32 else 33) ++ [32] ++ dig (vN I (420 + ns + 2 * i) 0) ++ [32] ++ dig (vN I (420 + ns + 2 * i) 1) ++ [32] ++ dig (vN I (420 + ns + 2 * i) 2) ++ sBy (if I (420 + ns + 2 * i) 5 = 0 then 18 else 34) ++ sBy (if I (420 + ns + 2 * i) 6 = 0 then 18 else 35) ++ sBy 36 ++ dig i ++ [32] ++ dig (vN I (420 + ns + 2 * i) 4)
def tWi (I : Mem) (ns k : Nat) : List Nat := sBy 37 ++ [112 + k] ++ [32] ++ dig (vN I (wd ns k) 0) ++ [32] ++ dig (vN I (wd ns k) 1) ++ (if I (wd ns k) 3 < 0 then sBy 39 ++ dig (vN I (wd ns k) 4) else sBy 38 ++ dig (vN I (wd ns k) 3)) ++ (if I (wd ns k) 2 ≤ 0 then [] else sBy 40 ++ dig (vN I (wd ns k) 2))
def tUp (f : Nat → List Nat) : Nat → List Nat
  | 0 => []
  | n + 1 => tUp f n ++ f n
/-- the whole text -/
def tAll (I : Mem) (ns : Nat) (v : Int32) : List Nat := tHd I ++ tAu I ++ tTa I ++ tUp (tSt I) ns ++ tUp (tPe I ns) 2 ++ tUp (tWi I ns) 4 ++ (if v &&& 1 = 0 then sBy 41 else [])
end TXT2
