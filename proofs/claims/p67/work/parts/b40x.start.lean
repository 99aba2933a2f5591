/-! THE START: Ex holds there -/
theorem st_all : ∀ q ∈ strT, Cond.stringRef q.1 q.2.1 q.2.2.1 ∈ lw_tbl := List.forall_mem_cons.mpr ⟨inTb2 205 rfl, List.forall_mem_cons.mpr ⟨inTb3 34 rfl, List.forall_mem_cons.mpr ⟨inTb3 98 rfl, List.forall_mem_cons.mpr ⟨inTb3 177 rfl, List.forall_mem_cons.mpr ⟨inTb3 183 rfl, List.forall_mem_cons.mpr ⟨inTb3 196 rfl, List.forall_mem_cons.mpr ⟨inTb3 197 rfl, List.forall_mem_cons.mpr ⟨inTb3 210 rfl, List.forall_mem_cons.mpr ⟨inTb4 171 rfl, List.forall_mem_cons.mpr ⟨inTb4 206 rfl, List.forall_mem_cons.mpr ⟨inTb5 12 rfl, List.forall_mem_cons.mpr ⟨inTb5 129 rfl, List.forall_mem_cons.mpr ⟨inTb5 151 rfl, List.forall_mem_cons.mpr ⟨inTb5 190 rfl, List.forall_mem_cons.mpr ⟨inTb6 200 rfl, List.forall_mem_cons.mpr ⟨inTb7 84 rfl, List.forall_mem_cons.mpr ⟨inTb7 86 rfl, List.forall_mem_cons.mpr ⟨inTb7 87 rfl, List.forall_mem_cons.mpr ⟨inTb7 88 rfl, List.forall_mem_cons.mpr ⟨inTb7 103 rfl, List.forall_mem_cons.mpr ⟨inTb7 104 rfl, List.forall_mem_cons.mpr ⟨inTb7 105 rfl, List.forall_mem_cons.mpr ⟨inTb7 106 rfl, List.forall_mem_cons.mpr ⟨inTb7 107 rfl, List.forall_mem_cons.mpr ⟨inTb7 108 rfl, List.forall_mem_cons.mpr ⟨inTb7 109 rfl, List.forall_mem_cons.mpr ⟨inTb7 110 rfl, List.forall_mem_cons.mpr ⟨inTb7 111 rfl, List.forall_mem_cons.mpr ⟨inTb7 112 rfl, List.forall_mem_cons.mpr ⟨inTb7 113 rfl, List.forall_mem_cons.mpr ⟨inTb7 114 rfl, List.forall_mem_cons.mpr ⟨inTb7 115 rfl, List.forall_mem_cons.mpr ⟨inTb9 59 rfl, List.forall_mem_cons.mpr ⟨inTb9 60 rfl, List.forall_mem_cons.mpr ⟨inTb9 61 rfl, List.forall_mem_cons.mpr ⟨inTb9 62 rfl, List.forall_mem_cons.mpr ⟨inTb9 63 rfl, List.forall_mem_cons.mpr ⟨inTb9 64 rfl, List.forall_mem_cons.mpr ⟨inTb9 65 rfl, List.forall_mem_cons.mpr ⟨inTb9 66 rfl, List.forall_mem_cons.mpr ⟨inTb9 67 rfl, List.forall_mem_cons.mpr ⟨inTb9 68 rfl, List.forall_mem_cons.mpr ⟨inTb9 69 rfl, List.forall_mem_cons.mpr ⟨inTb9 70 rfl, List.forall_mem_cons.mpr ⟨inTb9 71 rfl, List.forall_mem_cons.mpr ⟨inTb9 72 rfl, List.forall_mem_cons.mpr ⟨inTb9 73 rfl, List.forall_mem_cons.mpr ⟨inTb9 74 rfl, List.forall_mem_cons.mpr ⟨inTb9 75 rfl, List.forall_mem_cons.mpr ⟨inTb9 76 rfl, List.forall_mem_cons.mpr ⟨inTb9 77 rfl, fun _ h => absurd h List.not_mem_nil⟩⟩⟩⟩⟩⟩⟩⟩⟩⟩⟩⟩⟩⟩⟩⟩⟩⟩⟩⟩⟩⟩⟩⟩⟩⟩⟩⟩⟩⟩⟩⟩⟩⟩⟩⟩⟩⟩⟩⟩⟩⟩⟩⟩⟩⟩⟩⟩⟩⟩⟩
def ls_kP : List Nat := [61, 500, 504, 509, 511, 513, 502]
theorem ls_k : ∀ i, i < 7 → tables_1[ls_kP.getD i 0]? = some (Cond.laysStatic RX2 (knN.getD i "") "LWishMarket$Kind;") := by decide +kernel
def ls_iP : List Nat := [1961, 1962, 1963, 1964, 1965, 1966, 1967, 1968, 1969, 1970, 1971, 1972, 1973, 1974, 1975, 1976, 1977, 1978, 618]
theorem ls_i : ∀ i, i < 19 → tables_1[ls_iP.getD i 0]? = some (Cond.laysStatic RX1 (itN.getD i "") "LWishMarket$Item;") := by decide +kernel
theorem ex_start {args : Array Value} {s : State} (hF : ∀ c ∈ FL, c.before args s = true) (hts : ∀ w ∈ lw_tbl, w.before args s = true) (b : Nat) : ∃ ex : Nat → Nat, ex 50 = b ∧ Ex ex (fun q => s.heap.size ≤ q) s s.heap := by
  have hA : ∀ a : Nat, a < s.heap.size → ¬ s.heap.size ≤ a := fun a h1 h2 => by omega
  have hT1 : ∀ w ∈ tables_1, w.before args s = true := fun w hw => hts w (List.mem_append_right _ hw)
  obtain ⟨kd, hkd, -⟩ := k_En (args := args) (E := RX2) (d := "LWishMarket$Kind;") (nm := knN) (A := fun q => s.heap.size ≤ q) (fun i hi => hT1 _ (List.mem_of_getElem? (ls_k i hi))) (hts _ (inTb1 5 rfl)) (fun i hi => hF _ (fl_k1 i hi)) (fun i hi => hF _ (fl_k2 i hi)) (by decide) [] (fun q hq => by cases hq) hA
  obtain ⟨it, hit, hie⟩ := k_En (args := args) (E := RX1) (d := "LWishMarket$Item;") (nm := itN) (A := fun q => s.heap.size ≤ q) (fun i hi => hT1 _ (List.mem_of_getElem? (ls_i i hi))) (hts _ (inTb1 34 rfl)) (fun i hi => hF _ (fl_i1 i hi)) (fun i hi => hF _ (fl_i2 i hi)) (by decide) ordF (fun q hq => by
    obtain rfl : q = ("java/lang/Enum", "ordinal", "I", [0, 1, 2, 3, 4, 5, 6, 7, 8, 9, 10, 11, 12, 13, 14, 15, 16, 17, 18]) := by simpa [ordF] using hq
    exact ⟨rfl, rfl, rfl, by decide +kernel⟩) hA
  have h0 : ∀ i : Nat, ∃ q : Nat × Nat, i < 50 → (tmG i).eval args s none [] s = some (.ref q.1) ∧ (i < 42 → va_O "java/lang/String" q.1 (fun q => s.heap.size ≤ q) s s.heap ∧ va_OF "java/lang/String" "coder" "B" (.int 0) q.1 (fun q => s.heap.size ≤ q) s s.heap ∧ va_OF "java/lang/String" "value" "[B" (.ref q.2) q.1 (fun q => s.heap.size ≤ q) s s.heap ∧ va_T .byte q.2 (lenT.getD i 0) (fun j => .int ((bytT.getD i []).getD j 0)) (fun q => s.heap.size ≤ q) s s.heap) := by
    intro i
    by_cases hi : i < 50
    · obtain ⟨a, c, cA, kA, q1, q2, q3, q4, q5, q6, -⟩ := Cond.exactly_spec (args := args) (first := s) (o := none) (s := s) (idx := []) (t := tmG i) (cls := "java/lang/String") (hF _ (fl_s1 i hi))
      by_cases hi2 : i < 42
      · obtain ⟨t, ht, hT⟩ := va_Tof (f := fun j => .int ((bytT.getD i []).getD j 0)) (A := fun q => s.heap.size ≤ q) (by have := lenS i hi2; omega) (hF _ (fl_s3 i hi2)) (va_eqt (hF _ (fl_s4 i hi2))) (fun j hj => va_eqt (hF _ (fl_s5 i hi2 j hj))) hA
        exact ⟨(a, t), fun _ => ⟨q1, fun _ => ⟨⟨cA, q3, q5, by rw [q6]; exact q2, hA a (Array.getElem?_eq_some_iff.mp q3).1⟩, vk_OFof q1 (va_eqt (hF _ (fl_s2 i hi2))) hA, vk_OFof q1 ht hA, hT⟩⟩⟩
      · exact ⟨(a, 0), fun _ => ⟨q1, fun h => absurd h hi2⟩⟩
    · exact ⟨(0, 0), fun h => absurd h hi⟩
  obtain ⟨sd, hsd⟩ := Classical.axiomOfChoice h0
  have hS : vk_S 42 lenT bytT (fun i => (sd i).1) (fun i => (sd i).2) (fun q => s.heap.size ≤ q) s s.heap := by
    refine ⟨fun i hi => (hsd i (by omega)).2 hi, fun i j hi hj e => ?_⟩
    obtain ⟨-, -, a3, a4⟩ := (hsd i (by omega)).2 hi
    obtain ⟨-, -, b3, b4⟩ := (hsd j (by omega)).2 hj
    dsimp only at e
    rw [e] at a3
    have e2 : (sd i).2 = (sd j).2 := Value.ref.inj (va_OF.u a3 b3)
    rw [e2] at a4
    have l1 := lenS i hi
    have l2 := lenS j hj
    obtain ⟨h1, h2⟩ := va_T.u (by omega) (by omega) a4 b4
    exact strD i hi j hj h1 (fun k hk => Value.int.inj (h2 k hk))
  obtain ⟨ti, hti, hTi⟩ := va_Tof (args := args) (tm := .static RX9 "ITEMS" "[LWishMarket$Item;") (N := 19) (f := fun j => .ref (it j)) (A := fun q => s.heap.size ≤ q) (by decide) (hF _ fl_a1) (va_eqt (hF _ fl_a2)) (fun j hj => va_eqv (hF _ (fl_i4 j hj)) (hie j hj)) hA
  obtain ⟨tw, htw, hTw⟩ := va_Tof (args := args) (tm := .static RX0 "$SwitchMap$WishMarket$Item" "[I") (N := 19) (f := swT) (A := fun q => s.heap.size ≤ q) (by decide) (hF _ fl_b1) (va_eqt (hF _ fl_b2)) (fun j hj => va_eqt (hF _ (fl_w j hj))) hA
  obtain ⟨tt, htt, hTt⟩ := va_Tof (args := args) (tm := .static "java/lang/Integer" "DigitTens" "[B") (N := 100) (f := tensT) (A := fun q => s.heap.size ≤ q) (by decide) (hF _ fl_c1) (va_eqt (hF _ fl_c2)) (fun j hj => va_eqt (hF _ (fl_t j hj))) hA
  obtain ⟨to, hto, hTo⟩ := va_Tof (args := args) (tm := .static "java/lang/Integer" "DigitOnes" "[B") (N := 100) (f := onesT) (A := fun q => s.heap.size ≤ q) (by decide) (hF _ fl_d1) (va_eqt (hF _ fl_d2)) (fun j hj => va_eqt (hF _ (fl_o j hj))) hA
  have hZo : ∃ z : Nat, ∃ v : Value, (v = .null ∨ v = .ref z) ∧ va_Z "jdk/internal/util/Preconditions" "SIOOBE_FORMATTER" "Ljava/util/function/BiFunction;" v (fun q => s.heap.size ≤ q) s s.heap := by
    rcases va_Zqof (args := args) (hts _ (inTb3 63 rfl)) (hts _ (inTb1 25 rfl)) (hF _ fl_e4) hA with h | ⟨t, h⟩
    · exact ⟨0, .null, Or.inl rfl, h⟩
    · exact ⟨t, .ref t, Or.inr rfl, h⟩
  obtain ⟨z, hz⟩ := hZo
  obtain ⟨ta, hta, hTa⟩ := va_Tof (args := args) (tm := .static "java/util/ArrayList" "DEFAULTCAPACITY_EMPTY_ELEMENTDATA" "[Ljava/lang/Object;") (N := 0) (f := fun _ => .null) (A := fun q => s.heap.size ≤ q) (by decide) (hF _ fl_j1) (va_eqt (hF _ fl_j2)) (fun j hj => absurd hj (Nat.not_lt_zero j)) hA
  obtain ⟨tu, cu, cU, kU, u1', u2', u3', u4', u5', u6', -⟩ := Cond.exactly_spec (hF _ fl_j3)
  refine ⟨fun i => if i < 10 then kd i else if i < 30 then it (i - 10) else if i = 30 then ti else if i = 31 then tw else if i = 40 then tt else if i = 41 then to else if i = 42 then z else if i = 43 then ta else if i = 44 then tu else if i < 100 then b else if i < 200 then (sd (i - 100)).1 else (sd (i - 200)).2, rfl, ⟨⟨?_, ?_⟩, ⟨?_, ?_⟩, ⟨?_, ?_, ?_⟩, ⟨?_, ?_, ?_⟩, ⟨?_, ?_⟩, ⟨?_, ?_⟩, ⟨?_, ?_⟩, ⟨?_, ?_⟩, ⟨?_, ?_⟩, ⟨?_, ?_, ?_⟩, ?_, ?_⟩, fun w hw => ?_, fun q hq => ?_, fun q hq => va_Nc.of (hF _ (fl_n hq))⟩
  · exact vx_Zqof (args := args) (hts _ (inTb2 191 rfl)) (hts _ (inTb1 29 rfl)) (hF _ fl_e1) hA
  · exact vx_Zqof (args := args) (hts _ (inTb2 193 rfl)) (hts _ (inTb1 29 rfl)) (hF _ fl_e2) hA
  · exact hkd.cg (fun i hi => if_pos (by have : i < 7 := hi; omega))
  · exact hit.cg (fun i hi => by
      have h9 : i < 19 := hi
      dsimp only
      rw [if_neg (by omega), if_pos (by omega), Nat.add_sub_cancel_left])
  · have hE : va_Ef 19 RX1 "word" "Ljava/lang/String;" (fun i => .ref (sd i).1) it (fun q => s.heap.size ≤ q) s s.heap := fun i hi => vk_OFof (hie i hi) (va_eqv (hF _ (fl_i3 i hi)) (hsd i (by omega)).1) hA
    exact hE.cg (fun i hi => by
      dsimp only
      rw [if_neg (by omega), if_pos (by omega), Nat.add_sub_cancel_left]) (fun i hi => by
      dsimp only
      rw [if_neg (by omega), if_neg (by omega), if_neg (by omega), if_neg (by omega), if_neg (by omega), if_neg (by omega), if_neg (by omega), if_neg (by omega), if_neg (by omega), if_neg (by omega), if_pos (by omega), Nat.add_sub_cancel_left])
  · exact va_Zref (args := args) (hts _ (inTb3 135 rfl)) (hts _ (inTb1 1 rfl)) hti hA
  · exact hTi.cg (fun j hj => by
      dsimp only
      rw [if_neg (by omega), if_pos (by omega), Nat.add_sub_cancel_left])
  · exact va_Zref (args := args) (hts _ (inTb3 140 rfl)) (hts _ (inTb1 35 rfl)) htw hA
  · exact hTw
  · exact hS.cg (fun i hi => by
      dsimp only
      rw [if_neg (by omega), if_neg (by omega), if_neg (by omega), if_neg (by omega), if_neg (by omega), if_neg (by omega), if_neg (by omega), if_neg (by omega), if_neg (by omega), if_neg (by omega), if_pos (by omega), Nat.add_sub_cancel_left]) (fun i hi => by
      dsimp only
      rw [if_neg (by omega), if_neg (by omega), if_neg (by omega), if_neg (by omega), if_neg (by omega), if_neg (by omega), if_neg (by omega), if_neg (by omega), if_neg (by omega), if_neg (by omega), if_neg (by omega), Nat.add_sub_cancel_left])
  · exact va_Zof (args := args) (hts _ (inTb2 107 rfl)) (hts _ (inTb1 12 rfl)) (va_eqt (hF _ fl_e3)) hA
  · exact hz
  · exact va_Zref (args := args) (hts _ (inTb7 75 rfl)) (hts _ (inTb1 28 rfl)) htt hA
  · exact hTt
  · exact va_Zref (args := args) (hts _ (inTb7 73 rfl)) (hts _ (inTb1 28 rfl)) hto hA
  · exact hTo
  · exact va_Zref (args := args) (hts _ (inTb5 216 rfl)) (hts _ (inTb1 17 rfl)) hta hA
  · exact hTa
  · exact va_Zref (args := args) (hts _ (inTb8 144 rfl)) (hts _ (inTb1 18 rfl)) u1' hA
  · exact ⟨cU, u3', u5', by rw [u6']; exact u2', hA tu (Array.getElem?_eq_some_iff.mp u3').1⟩
  · exact va_Zof (args := args) (hts _ (inTb8 137 rfl)) (hts _ (inTb1 37 rfl)) (va_eqt (hF _ fl_j4)) hA
  · exact va_Zof (args := args) (hts _ (inTb8 139 rfl)) (hts _ (inTb1 18 rfl)) (va_eqt (hF _ fl_j5)) hA
  · exact va_Zof (args := args) (hts _ (inTb8 215 rfl)) (hts _ (inTb1 18 rfl)) (va_eqt (hF _ fl_j6)) hA
  · exact va_Fw.of (hts _ (inTb8 46 rfl)) (hts _ (inTb8 45 rfl)) (hts _ (inTb8 50 rfl)) (hts _ (inTb8 49 rfl)) (hts _ (inTb8 47 rfl))
  · exact va_Fw.of (hts _ (inTb8 58 rfl)) (hts _ (inTb8 57 rfl)) (hts _ (inTb8 61 rfl)) (hts _ (inTb8 60 rfl)) (hts _ (inTb8 47 rfl))
  · have hb := hts w (List.mem_filter.mp hw).1
    rcases wsN_cases hw with ⟨a, b, c, d, rfl⟩ | ⟨a, b, c, d, e, f, rfl⟩ | ⟨a, b, rfl⟩ | ⟨C, rfl⟩ | ⟨x, rfl⟩
    · exact va_tabs rfl rfl hb
    · exact va_tabs rfl rfl hb
    · exact va_tabs rfl rfl hb
    · unfold va_Nw
      simpa [Cond.before, Cond.holds, Cond.value] using hb
    · exact va_tabs rfl rfl hb
  · obtain ⟨i, hi, rfl⟩ := List.mem_iff_getElem.mp hq
    have e9 : sq i = strT[i] := by
      show strT.getD i _ = _
      rw [List.getD_eq_getElem?_getD, List.getElem?_eq_getElem hi]
      rfl
    have hb9 : ∀ i, i < strT.length → (sq i).2.2.2 < 50 := by decide +kernel
    have h35 := hb9 i hi
    have hev : (Term.string (sq i).1 (sq i).2.1).eval args s none [] s = some (.ref (sd (sq i).2.2.2).1) := by
      rcases fl_qA i hi with ⟨-, h⟩ | ⟨-, h⟩ | ⟨h, -⟩
      · rw [h]; exact (hsd _ h35).1
      · exact va_eqv (hF _ (List.mem_of_getElem? h)) (hsd _ h35).1
      · have : ∀ i, i < strT.length → ¬ fl_qF.getD i 0 = 2 := by decide +kernel
        exact absurd h (this i hi)
    rw [e9] at hev h35
    have hx := vk_R.of (hts _ (st_all _ hq)) hev
    dsimp only
    rw [if_neg (by omega), if_neg (by omega), if_neg (by omega), if_neg (by omega), if_neg (by omega), if_neg (by omega), if_neg (by omega), if_neg (by omega), if_neg (by omega), if_neg (by omega), if_pos (by omega), Nat.add_sub_cancel_left]
    exact hx
