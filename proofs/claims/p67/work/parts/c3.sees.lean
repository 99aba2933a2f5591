/-! what the law sees -/
theorem nle_f {a b : Nat} (h : b < a) (ha : a < 2147483648) : ¬ nI a ≤ nI b := by
  rw [nJ_ef h ha]
  exact id
section SEES
variable {I : Mem} {K : Kt} {w ns x y : Nat} {N : Nat → Int32} {h : Nat → Int64}
/-- other longs at x -/
abbrev kJs (K : Kt) (x : Nat) (h : Nat → Int64) : Kt := kSetJ K (u1 (kJ K) x h)
def upj (h : Nat → Int64) (j : Nat) (v : Int64) : Nat → Int64 := fun k => if k = j then v else h k
theorem upj_s {j : Nat} {v : Int64} : upj h j v j = v := if_pos rfl
theorem upj_n {j k : Nat} {v : Int64} (e : k ≠ j) : upj h j v k = h k := if_neg e
theorem puJ_s {j : Nat} {v : Int64} : puJ (kJs K x h) x j v = some (kJs K x (upj h j v)) := by
  unfold puJ
  congr 1
  show (K.1, K.2.1, K.2.2.1, u2 (u1 (kJ K) x h) x j v, K.2.2.2.2) = (K.1, K.2.1, K.2.2.1, u1 (kJ K) x (upj h j v), K.2.2.2.2)
  have e : u2 (u1 (kJ K) x h) x j v = u1 (kJ K) x (upj h j v) := by
    funext a
    by_cases e : a = x
    · subst e
      rw [u1_s]
      funext k
      by_cases e2 : k = j
      · subst e2; rw [u2_s, upj_s]
      · rw [u2_k e2, u1_s, upj_n e2]
    · rw [u2_a e, u1_n e, u1_n e]
  rw [e]
theorem kJs_id : kJs K x (kJ K x) = K := by
  show (K.1, K.2.1, K.2.2.1, u1 (kJ K) x (kJ K x), K.2.2.2.2) = K
  have e : u1 (kJ K) x (kJ K x) = kJ K := by
    funext a
    by_cases e : a = x
    · subst e; exact u1_s
    · exact u1_n e
  rw [e]
theorem all_row (P : PJ I w N ns) (L : LW K w) : f_L_all I K w = some (iT N 2 ns) := by
  have b2 := P.2.f.s.2
  have h28 : ∀ b, l_L_all_28 FU I K w b 0 = some (kT N b ns) := fun b => by
    refine up_loop (fun f (s : Int32 × Int32) => l_L_all_28 f I K w s.1 s.2) (fun i => (kT N b i, nI i)) ns _ (fun i hi f => ?_) (fun f => ?_) (FU_up (by omega))
    · show (b1 (cW K w) fun _ => o1 (f_X9_stallCount I w) fun v7 => if v7 ≤ nI i then (some (kT N b i)) else (b1 (cW K w) fun _ => o1 (f_X9_cash I w (nI i)) fun v11 => l_L_all_28 f I K w (kT N b i + v11) (nI i + 1))) = _
      rw [cW_n L, b1_so, P.stallCount, o1_ok, if_neg (nle_f (by omega) (by omega)), b1_so, P.cash hi, o1_ok, nI_s1]
      rfl
    · show (b1 (cW K w) fun _ => o1 (f_X9_stallCount I w) fun v7 => if v7 ≤ nI ns then (some (kT N b ns)) else _) = _
      rw [cW_n L, b1_so, P.stallCount, o1_ok, if_pos (Int32.le_refl _)]
  refine up_loop (fun f (s : Int32 × Int32) => l_L_all_4 f I K w s.1 s.2) (fun i => (pT N i, nI i)) 2 _ (fun i hi f => ?_) (fun f => ?_) (FU_up (by omega))
  · show (b1 (cW K w) fun _ => o1 (f_X9_personCount I w) fun v3 => if v3 ≤ nI i then (l_L_all_28 FU I K w (pT N i) 0) else (b1 (cW K w) fun _ => o1 (f_X9_coins I w (nI i)) fun v15 => l_L_all_4 f I K w (pT N i + v15) (nI i + 1))) = _
    rw [cW_n L, b1_so, P.personCount, o1_ok, if_neg (nle_f (by omega) (by omega)), b1_so, P.coins hi, o1_ok, nI_s1]
    rfl
  · show (b1 (cW K w) fun _ => o1 (f_X9_personCount I w) fun v3 => if v3 ≤ nI 2 then (l_L_all_28 FU I K w (pT N 2) 0) else _) = _
    rw [cW_n L, b1_so, P.personCount, o1_ok, if_pos (Int32.le_refl _), h28]
    rfl
def sOwn (N : Nat → Int32) (k : Nat) : Int32 := if wN N k 3 = 1 then wN N k 4 else -1
def sStl (N : Nat → Int32) (k : Nat) : Int32 := if wN N k 3 = 0 then wN N k 4 else -1
/-- what is seen, of a wishes, b persons, c stalls -/
def sGp (N : Nat → Int32) (a b c : Nat) (j : Nat) : Int64 :=
  if j = 0 then (N 1).toInt64 else if j = 1 then (nI (sCnt (fun w => wN N w 3 = 3) 4)).toInt64 else if j = 2 then (nI (sGrN N 4)).toInt64
  else if 10 ≤ j ∧ j < 10 + a then (wN N (j - 10) 2).toInt64
  else if 14 ≤ j ∧ j < 14 + a then ((1000 : Int64) * (sOwn N (j - 14) + 1).toInt64 + (100 : Int64) * (sStl N (j - 14) + 1).toInt64) + (wN N (j - 14) 5).toInt64 + (1 : Int64)
  else if 20 ≤ j ∧ j < 20 + b then (pN N (j - 20) 4).toInt64
  else if 30 ≤ j ∧ j < 30 + b then ((1000000 : Int64) * (pN N (j - 30) 0).toInt64 + (1000 : Int64) * (pN N (j - 30) 2).toInt64) + (pN N (j - 30) 3).toInt64
  else if 40 ≤ j ∧ j < 40 + c then ((1000000 : Int64) * (sN N (j - 40) 1).toInt64 + (1000 : Int64) * (sN N (j - 40) 2).toInt64) + (sN N (j - 40) 3).toInt64
  else 0
abbrev sG (N : Nat → Int32) (ns : Nat) : Nat → Int64 := sGp N 4 2 ns
theorem ixa {c i n : Nat} (h : c + i < n) (hn : n < 1000) : ix (nI c + nI i) n = some (c + i) := by rw [nI_add]; exact ix_n h (by omega)
theorem sees_158 (P : PJ I w N ns) (L : LW K w) (A : LA K 103 60 x) : ∀ d i, i + d = ns → ∀ f, d < f → ∀ h, (∀ j, j < 60 → h j = sGp N 4 2 i j) → ∃ h', l_L_sees_158 f I (kJs K x h) w x (nI i) = some (I, kJs K x h') ∧ ∀ j, j < 60 → h' j = sG N ns j := by
  have b2 := P.2.f.s.2
  have cw : ∀ h, cW (kJs K x h) w = some () := fun h => cW_n (show LW (kJs K x h) w from L)
  have ca : ∀ h, cA (kJs K x h) 103 x = some 60 := fun h => cA_n (show LA (kJs K x h) 103 60 x from A)
  intro d
  induction d with
  | zero =>
    intro i hi f hf h hh
    obtain rfl : i = ns := by omega
    cases f with
    | zero => omega
    | succ f =>
      refine ⟨h, ?_, hh⟩
      show (b1 (cW (kJs K x h) w) fun _ => o1 (f_X9_stallCount I w) fun v40 => if v40 ≤ nI i then (some (I, kJs K x h)) else _) = _
      rw [cw, b1_so, P.stallCount, o1_ok, if_pos (Int32.le_refl _)]
  | succ d ih =>
    intro i hi f hf h hh
    cases f with
    | zero => omega
    | succ f =>
      obtain ⟨h', e, g⟩ := ih (i + 1) (by omega) f (by omega) (upj h (40 + i) (((1000000 : Int64) * (sN N i 1).toInt64 + (1000 : Int64) * (sN N i 2).toInt64) + (sN N i 3).toInt64)) (fun j hj => by
        by_cases e : j = 40 + i
        · subst e
          rw [upj_s]
          unfold sGp
          rw [if_neg (by omega), if_neg (by omega), if_neg (by omega), if_neg (by omega), if_neg (by omega), if_neg (by omega), if_neg (by omega), if_pos (by omega), show 40 + i - 40 = i by omega]
        · rw [upj_n e, hh j hj]
          unfold sGp
          have e2 : (40 ≤ j ∧ j < 40 + i) = (40 ≤ j ∧ j < 40 + (i + 1)) := propext ⟨fun z => by omega, fun z => by omega⟩
          simp only [e2])
      refine ⟨h', ?_, g⟩
      rw [← e]
      show (b1 (cW (kJs K x h) w) fun _ => o1 (f_X9_stallCount I w) fun v40 => if v40 ≤ nI i then (some (I, kJs K x h)) else (b1 (cW (kJs K x h) w) fun _ => o1 (f_X9_cash I w (nI i)) fun v44 => b1 (cW (kJs K x h) w) fun _ => o1 (f_X9_stars I w (nI i)) fun v48 => b1 (cW (kJs K x h) w) fun _ => o1 (f_X9_margin I w (nI i)) fun v52 => b1 (cA (kJs K x h) 103 x) fun m55 => b1 (ix (nI 40 + nI i) m55) fun j54 => b1 (puJ (kJs K x h) x j54 ((((1000000 : Int64) * (v44 : Int32).toInt64) + ((1000 : Int64) * (v48 : Int32).toInt64)) + (v52 : Int32).toInt64)) fun K58 => l_L_sees_158 f I K58 w x (nI i + 1))) = _
      rw [cw, b1_so, P.stallCount, o1_ok, if_neg (nle_f (by omega) (by omega)), b1_so, P.cash (by omega), o1_ok, b1_so, P.stars (by omega), o1_ok, b1_so, P.margin (by omega), o1_ok, ca, b1_so, ixa (by omega) (by decide), b1_so, puJ_s, b1_so, nI_s1]
theorem sees_96 (P : PJ I w N ns) (L : LW K w) (A : LA K 103 60 x) : ∀ d i, i + d = 2 → ∀ f, d < f → ∀ h, (∀ j, j < 60 → h j = sGp N 4 i 0 j) → ∃ h', l_L_sees_96 f I (kJs K x h) w x (nI i) = some (I, kJs K x h') ∧ ∀ j, j < 60 → h' j = sG N ns j := by
  have b2 := P.2.f.s.2
  have cw : ∀ h, cW (kJs K x h) w = some () := fun h => cW_n (show LW (kJs K x h) w from L)
  have ca : ∀ h, cA (kJs K x h) 103 x = some 60 := fun h => cA_n (show LA (kJs K x h) 103 60 x from A)
  intro d
  induction d with
  | zero =>
    intro i hi f hf h hh
    obtain rfl : i = 2 := by omega
    cases f with
    | zero => omega
    | succ f =>
      obtain ⟨h', e, g⟩ := sees_158 P L A ns 0 (by omega) FU (FU_up (by omega)) h hh
      refine ⟨h', ?_, g⟩
      show (b1 (cW (kJs K x h) w) fun _ => o1 (f_X9_personCount I w) fun v36 => if v36 ≤ nI 2 then (l_L_sees_158 FU I (kJs K x h) w x 0) else _) = _
      rw [cw, b1_so, P.personCount, o1_ok, if_pos (Int32.le_refl _)]
      exact e
  | succ d ih =>
    intro i hi f hf h hh
    cases f with
    | zero => omega
    | succ f =>
      obtain ⟨h', e, g⟩ := ih (i + 1) (by omega) f (by omega) (upj (upj h (20 + i) (pN N i 4).toInt64) (30 + i) (((1000000 : Int64) * (pN N i 0).toInt64 + (1000 : Int64) * (pN N i 2).toInt64) + (pN N i 3).toInt64)) (fun j hj => by
        by_cases e : j = 30 + i
        · subst e
          rw [upj_s]
          unfold sGp
          rw [if_neg (by omega), if_neg (by omega), if_neg (by omega), if_neg (by omega), if_neg (by omega), if_neg (by omega), if_pos (by omega), show 30 + i - 30 = i by omega]
        · rw [upj_n e]
          by_cases e' : j = 20 + i
          · subst e'
            rw [upj_s]
            unfold sGp
            rw [if_neg (by omega), if_neg (by omega), if_neg (by omega), if_neg (by omega), if_neg (by omega), if_pos (by omega), show 20 + i - 20 = i by omega]
          · rw [upj_n e', hh j hj]
            unfold sGp
            have e2 : (20 ≤ j ∧ j < 20 + i) = (20 ≤ j ∧ j < 20 + (i + 1)) := propext ⟨fun z => by omega, fun z => by omega⟩
            have e3 : (30 ≤ j ∧ j < 30 + i) = (30 ≤ j ∧ j < 30 + (i + 1)) := propext ⟨fun z => by omega, fun z => by omega⟩
            simp only [e2, e3])
      refine ⟨h', ?_, g⟩
      rw [← e]
      show (b1 (cW (kJs K x h) w) fun _ => o1 (f_X9_personCount I w) fun v36 => if v36 ≤ nI i then (l_L_sees_158 FU I (kJs K x h) w x 0) else (b1 (cW (kJs K x h) w) fun _ => o1 (f_X9_shoppingLimit I w (nI i)) fun v62 => b1 (cA (kJs K x h) 103 x) fun m65 => b1 (ix (nI 20 + nI i) m65) fun j64 => b1 (puJ (kJs K x h) x j64 (v62 : Int32).toInt64) fun K68 => b1 (cW K68 w) fun _ => o1 (f_X9_coins I w (nI i)) fun v72 => b1 (cW K68 w) fun _ => o1 (f_X9_candles I w (nI i)) fun v76 => b1 (cW K68 w) fun _ => o1 (f_X9_happiness I w (nI i)) fun v80 => b1 (cA K68 103 x) fun m83 => b1 (ix (nI 30 + nI i) m83) fun j82 => b1 (puJ K68 x j82 ((((1000000 : Int64) * (v72 : Int32).toInt64) + ((1000 : Int64) * (v76 : Int32).toInt64)) + (v80 : Int32).toInt64)) fun K86 => l_L_sees_96 f I K86 w x (nI i + 1))) = _
      rw [cw, b1_so, P.personCount, o1_ok, if_neg (nle_f (by omega) (by omega)), b1_so, P.shoppingLimit (by omega), o1_ok, ca, b1_so, ixa (by omega) (by decide), b1_so, puJ_s, b1_so, cw, b1_so, P.coins (by omega), o1_ok, b1_so, P.candles (by omega), o1_ok, b1_so, P.happiness (by omega), o1_ok, ca, b1_so, ixa (by omega) (by decide), b1_so, puJ_s, b1_so, nI_s1]
theorem sees_31 (P : PJ I w N ns) (L : LW K w) (A : LA K 103 60 x) : ∀ d i, i + d = 4 → ∀ f, d < f → ∀ h, (∀ j, j < 60 → h j = sGp N i 0 0 j) → ∃ h', l_L_sees_31 f I (kJs K x h) w x (nI i) = some (I, kJs K x h') ∧ ∀ j, j < 60 → h' j = sG N ns j := by
  have b2 := P.2.f.s.2
  have cw : ∀ h, cW (kJs K x h) w = some () := fun h => cW_n (show LW (kJs K x h) w from L)
  have ca : ∀ h, cA (kJs K x h) 103 x = some 60 := fun h => cA_n (show LA (kJs K x h) 103 60 x from A)
  intro d
  induction d with
  | zero =>
    intro i hi f hf h hh
    obtain rfl : i = 4 := by omega
    cases f with
    | zero => omega
    | succ f =>
      obtain ⟨h', e, g⟩ := sees_96 P L A 2 0 (by omega) FU (FU_up (by omega)) h hh
      refine ⟨h', ?_, g⟩
      show (if nI 4 ≤ nI 4 then (l_L_sees_96 FU I (kJs K x h) w x 0) else _) = _
      rw [if_pos (Int32.le_refl _)]
      exact e
  | succ d ih =>
    intro i hi f hf h hh
    cases f with
    | zero => omega
    | succ f =>
      obtain ⟨h', e, g⟩ := ih (i + 1) (by omega) f (by omega) (upj (upj h (10 + i) (wN N i 2).toInt64) (14 + i) (((1000 : Int64) * (sOwn N i + 1).toInt64 + (100 : Int64) * (sStl N i + 1).toInt64) + (wN N i 5).toInt64 + (1 : Int64))) (fun j hj => by
        by_cases e : j = 14 + i
        · subst e
          rw [upj_s]
          unfold sGp
          rw [if_neg (by omega), if_neg (by omega), if_neg (by omega), if_neg (by omega), if_pos (by omega), show 14 + i - 14 = i by omega]
        · rw [upj_n e]
          by_cases e' : j = 10 + i
          · subst e'
            rw [upj_s]
            unfold sGp
            rw [if_neg (by omega), if_neg (by omega), if_neg (by omega), if_pos (by omega), show 10 + i - 10 = i by omega]
          · rw [upj_n e', hh j hj]
            unfold sGp
            have e2 : (10 ≤ j ∧ j < 10 + i) = (10 ≤ j ∧ j < 10 + (i + 1)) := propext ⟨fun z => by omega, fun z => by omega⟩
            have e3 : (14 ≤ j ∧ j < 14 + i) = (14 ≤ j ∧ j < 14 + (i + 1)) := propext ⟨fun z => by omega, fun z => by omega⟩
            simp only [e2, e3])
      refine ⟨h', ?_, g⟩
      rw [← e]
      show (if nI 4 ≤ nI i then (l_L_sees_96 FU I (kJs K x h) w x 0) else (b1 (cW (kJs K x h) w) fun _ => o1 (f_X9_wear I w (nI i)) fun v90 => b1 (cA (kJs K x h) 103 x) fun m93 => b1 (ix (nI 10 + nI i) m93) fun j92 => b1 (puJ (kJs K x h) x j92 (v90 : Int32).toInt64) fun K96 => b1 (cW K96 w) fun _ => o1 (f_X9_owner I w (nI i)) fun v100 => b1 (cW K96 w) fun _ => o1 (f_X9_stallOf I w (nI i)) fun v104 => b1 (cW K96 w) fun _ => o1 (f_X9_purchaseDay I w (nI i)) fun v108 => b1 (cA K96 103 x) fun m111 => b1 (ix (nI 14 + nI i) m111) fun j110 => b1 (puJ K96 x j110 (((((1000 : Int64) * ((v100 + 1) : Int32).toInt64) + ((100 : Int64) * ((v104 + 1) : Int32).toInt64)) + (v108 : Int32).toInt64) + (1 : Int64))) fun K114 => l_L_sees_31 f I K114 w x (nI i + 1))) = _
      rw [if_neg (nle_f (by omega) (by omega)), cw, b1_so, P.wear (by omega), o1_ok, ca, b1_so, ixa (by omega) (by decide), b1_so, puJ_s, b1_so, cw, b1_so, P.owner (by omega), o1_ok, b1_so, P.stallOf (by omega), o1_ok, b1_so, P.purchaseDay (by omega), o1_ok, ca, b1_so, ixa (by omega) (by decide), b1_so, nI_s1]
      rw [show (((1000 : Int64) * ((if wN N i 3 = 1 then wN N i 4 else -1) + 1).toInt64 + (100 : Int64) * ((if wN N i 3 = 0 then wN N i 4 else -1) + 1).toInt64) + (wN N i 5).toInt64 + (1 : Int64)) = (((1000 : Int64) * (sOwn N i + 1).toInt64 + (100 : Int64) * (sStl N i + 1).toInt64) + (wN N i 5).toInt64 + (1 : Int64)) from rfl, puJ_s, b1_so]
theorem fill_row (A : LA K 103 60 x) : ∀ d i, i + d = 60 → ∀ f, d < f → ∀ h, (∀ j, j < i → h j = 0) → ∃ h', l_J7_fill_d0a16_6 f I (kJs K x h) x 0 (nI i) (nI 60) = some (I, kJs K x h') ∧ ∀ j, j < 60 → h' j = 0 := by
  have ca : ∀ h, cA (kJs K x h) 103 x = some 60 := fun h => cA_n (show LA (kJs K x h) 103 60 x from A)
  intro d
  induction d with
  | zero =>
    intro i hi f hf h hh
    obtain rfl : i = 60 := by omega
    cases f with
    | zero => omega
    | succ f =>
      refine ⟨h, ?_, hh⟩
      show (if nI 60 ≤ nI 60 then (some (I, kJs K x h)) else _) = _
      rw [if_pos (Int32.le_refl _)]
  | succ d ih =>
    intro i hi f hf h hh
    cases f with
    | zero => omega
    | succ f =>
      obtain ⟨h', e, g⟩ := ih (i + 1) (by omega) f (by omega) (upj h i 0) (fun j hj => by
        by_cases e : j = i
        · subst e; exact upj_s
        · rw [upj_n e]; exact hh j (by omega))
      refine ⟨h', ?_, g⟩
      rw [← e]
      show (if nI 60 ≤ nI i then (some (I, kJs K x h)) else (b1 (cA (kJs K x h) 103 x) fun m4 => b1 (ix (nI i) m4) fun j3 => b1 (puJ (kJs K x h) x j3 0) fun K7 => l_J7_fill_d0a16_6 f I K7 x 0 (nI i + 1) (nI 60))) = _
      rw [if_neg (nle_f (by omega) (by omega)), ca, b1_so, ix_n (by omega) (by decide), b1_so, puJ_s, b1_so, nI_s1]
theorem sees_row (P : PJ I w N ns) (L : LW K w) (A : LA K 103 60 x) (hx : x < xB) : ∃ h, f_L_sees I K w x = some (I, kJs K x h) ∧ ∀ j, j < 60 → h j = sG N ns j := by
  have cw : ∀ h, cW (kJs K x h) w = some () := fun h => cW_n (show LW (kJs K x h) w from L)
  have ca : ∀ h, cA (kJs K x h) 103 x = some 60 := fun h => cA_n (show LA (kJs K x h) 103 60 x from A)
  obtain ⟨h1, e1, g1⟩ := fill_row (I := I) A 60 0 rfl FU (FU_up (by decide)) (kJ K x) (fun j hj => absurd hj (Nat.not_lt_zero j))
  obtain ⟨h2, e2, g2⟩ := sees_31 P L A 4 0 rfl FU (FU_up (by decide)) (upj (upj (upj h1 0 (N 1).toInt64) 1 (nI (sCnt (fun w => wN N w 3 = 3) 4)).toInt64) 2 (nI (sGrN N 4)).toInt64) (fun j hj => by
    unfold sGp
    by_cases j0 : j = 0
    · subst j0; rw [if_pos rfl]; rfl
    · rw [if_neg j0]
      by_cases j1 : j = 1
      · subst j1; rw [if_pos rfl]; rfl
      · rw [if_neg j1]
        by_cases j2 : j = 2
        · subst j2; rw [if_pos rfl]; rfl
        · rw [if_neg j2, upj_n j2, upj_n j1, upj_n j0, g1 j hj, if_neg (by omega), if_neg (by omega), if_neg (by omega), if_neg (by omega), if_neg (by omega)])
  refine ⟨h2, ?_, g2⟩
  rw [kJs_id] at e1
  have f1 : f_J7_fill_d0a16 I K x 0 = some (I, kJs K x h1) := by
    unfold f_J7_fill_d0a16
    rw [cLen_n A (by decide) hx, b1_so]
    exact e1
  unfold f_L_sees
  rw [f1, b2_so, cw, b1_so, P.day, o1_ok, ca, b1_so, show ix 0 60 = some 0 from rfl, b1_so, puJ_s, b1_so, cw, b1_so, P.fadedCount, o1_ok, ca, b1_so, show ix 1 60 = some 1 from rfl, b1_so, puJ_s, b1_so, cw, b1_so, P.grantedCount, o1_ok, ca, b1_so, show ix 2 60 = some 2 from rfl, b1_so, puJ_s, b1_so]
  exact e2
theorem lgc (v : Int64) : lg_cmp v v = 0 := by
  unfold lg_cmp
  rw [if_neg (show ¬ v > v from Int64.lt_irrefl), if_pos rfl]
def offL (i : Nat) : Int64 := (16 : Int32).toInt64 + ((nI i).toInt64 <<< ((3 : Int32).toInt64 &&& 63))
theorem offs : ∀ i, i < 60 → ¬ offL i < 0 ∧ (offL i).toNatClampNeg = 16 + 8 * i ∧ offL i &&& 7 = 0 := by decide +kernel
theorem getL_row (A : LA K 103 60 x) {i : Nat} (hi : i < 60) : f_Jx9a822_getLongUnaligned_f02c6 I K x (offL i) = some (kJ K x i) := by
  obtain ⟨o1', o2', o3'⟩ := offs i hi
  unfold f_Jx9a822_getLongUnaligned_f02c6
  rw [cA_n A, b1_so, o2', show (16 + 8 * i - 16) / 8 = i by omega, if_pos ⟨o1', rfl, hi, o3'⟩]
theorem mism (A : LA K 103 60 x) (B : LA K 103 60 y) (hh : ∀ j, j < 60 → kJ K x j = kJ K y j) : ∀ d i, i + d = 60 → ∀ f, d < f → l_J8_vectorizedMismatch_456ae_11 f I K x (16 : Int32).toInt64 y (16 : Int32).toInt64 (nI 60) 3 (3 - 3) (nI i) = some (-1) := by
  have e60 : (nI 60) >>> (((3 : Int32) - 3) &&& 31) = nI 60 := by decide
  intro d
  induction d with
  | zero =>
    intro i hi f hf
    obtain rfl : i = 60 := by omega
    cases f with
    | zero => omega
    | succ f =>
      show (if (nI 60) >>> (((3 : Int32) - 3) &&& 31) ≤ nI 60 then (if (2 : Int32) ≤ 3 then (some (((nI 60 - (nI 60 <<< (((3 : Int32) - 3) &&& 31))) ^^^ (-1)))) else _) else _) = _
      rw [e60, if_pos (Int32.le_refl _), if_pos (by decide)]
      exact congrArg some (by decide)
  | succ d ih =>
    intro i hi f hf
    cases f with
    | zero => omega
    | succ f =>
      show (if (nI 60) >>> (((3 : Int32) - 3) &&& 31) ≤ nI i then _ else (b1 (f_Jx9a822_getLongUnaligned_f02c6 I K x (offL i)) fun v2 => b1 (f_Jx9a822_getLongUnaligned_f02c6 I K y (offL i)) fun v5 => if (lg_cmp v2 v5) = 0 then (l_J8_vectorizedMismatch_456ae_11 f I K x (16 : Int32).toInt64 y (16 : Int32).toInt64 (nI 60) 3 (3 - 3) (nI i + 1)) else (none))) = _
      rw [e60, if_neg (nle_f (by omega) (by omega)), getL_row A (by omega), b1_so, getL_row B (by omega), b1_so, hh i (by omega), lgc, if_pos rfl, nI_s1]
      exact ih (i + 1) (by omega) f (by omega)
theorem equals_row (A : LA K 103 60 x) (B : LA K 103 60 y) (hxy : x ≠ y) (hx : x < xB ∧ y < xB) (hh : ∀ j, j < 60 → kJ K x j = kJ K y j) : f_J7_equals_331f6 I K x y = some 1 := by
  have h0 := mism (I := I) A B hh 60 0 rfl FU (FU_up (by decide))
  have e : f_J8_mismatch_974f6 I K x y (nI 60) = some (-1) := by
    unfold f_J8_mismatch_974f6 f_J8_vectorizedMismatch_456ae
    rw [if_neg (by decide), cA_n A, b1_so, show ix 0 60 = some 0 from rfl, b1_so, cA_n B, b1_so, show ix 0 60 = some 0 from rfl, b1_so, hh 0 (by decide), lgc, if_pos rfl]
    have h1 : l_J8_vectorizedMismatch_456ae_11 FU I K x (16 : Int32).toInt64 y (16 : Int32).toInt64 (nI 60) 3 (3 - 3) 0 = some (-1) := h0
    rw [h1, b1_so, if_pos (by decide)]
  unfold f_J7_equals_331f6
  rw [show cNe K x y = some () from if_pos ⟨A.2, B.2, hxy⟩, b1_so, cLen_n A (by decide) hx.1, b1_so, cLen_n B (by decide) hx.2, b1_so, if_pos rfl, e, b1_so, if_neg (by decide)]
end SEES
