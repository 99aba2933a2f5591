/-! parseSetup -/
section PSE
variable {I J I1 I2 I3 J1 J2 J3 I' J' : Mem} {K : Kt} {n f q r k m c s w kb gb D np ns nw : Nat} {N N' M : Nat → Int32}
theorem c_rI3 {K : Kt} : ∀ {I : Mem} {x0 : Nat} (_ : MK K x0) {I9 : Mem}, rI3 I x0 = some I9 → Ct (mX10_readsItem 12) cX10_readsItem 0 0 [.ref x0] I K (Ro (.inl none) I9 K) := by
  intro I x0 H I9 h
  refine c_X10_readsItem 0 (a_X10_readsRepeat := f_X10_readsRepeat fun _ _ => none) ?_ H h
  intro I x0 H I9 h
  refine c_X10_readsRepeat 6 (a_X10_readsItems := fun _ _ => none) ?_ H h
  intro I x0 H I9 h
  cases h
theorem c_rI2 {K : Kt} : ∀ {I : Mem} {x0 : Nat} (_ : MK K x0) {I9 : Mem}, rI2 I x0 = some I9 → Ct (mX10_readsItem 15) cX10_readsItem 0 0 [.ref x0] I K (Ro (.inl none) I9 K) := by
  intro I x0 H I9 h
  refine c_X10_readsItem 3 (a_X10_readsRepeat := f_X10_readsRepeat (f_X10_readsItems rI3)) ?_ H h
  intro I x0 H I9 h
  refine c_X10_readsRepeat 9 (a_X10_readsItems := f_X10_readsItems rI3) ?_ H h
  intro I x0 H I9 h
  exact c_X10_readsItems 9 (a_X10_readsItem := rI3) c_rI3 H h
theorem c_rI1 {K : Kt} : ∀ {I : Mem} {x0 : Nat} (_ : MK K x0) {I9 : Mem}, rI1 I x0 = some I9 → Ct (mX10_readsItem 18) cX10_readsItem 0 0 [.ref x0] I K (Ro (.inl none) I9 K) := by
  intro I x0 H I9 h
  refine c_X10_readsItem 6 (a_X10_readsRepeat := f_X10_readsRepeat (f_X10_readsItems rI2)) ?_ H h
  intro I x0 H I9 h
  refine c_X10_readsRepeat 12 (a_X10_readsItems := f_X10_readsItems rI2) ?_ H h
  intro I x0 H I9 h
  exact c_X10_readsItems 12 (a_X10_readsItem := rI2) c_rI2 H h
theorem c_rI0 {K : Kt} : ∀ {I : Mem} {x0 : Nat} (_ : MK K x0) {I9 : Mem}, rI0 I x0 = some I9 → Ct (mX10_readsItem 21) cX10_readsItem 0 0 [.ref x0] I K (Ro (.inl none) I9 K) := by
  intro I x0 H I9 h
  refine c_X10_readsItem 9 (a_X10_readsRepeat := f_X10_readsRepeat (f_X10_readsItems rI1)) ?_ H h
  intro I x0 H I9 h
  refine c_X10_readsRepeat 15 (a_X10_readsItems := f_X10_readsItems rI1) ?_ H h
  intro I x0 H I9 h
  exact c_X10_readsItems 15 (a_X10_readsItem := rI1) c_rI1 H h
theorem c_rT {K : Kt} : ∀ {I : Mem} {x0 : Nat} (_ : MK K x0) {I9 : Mem}, f_X10_readsText rI0 I x0 = some I9 → Ct (mX10_readsText 22) cX10_readsText 0 0 [.ref x0] I K (Ro (.inl none) I9 K) := by
  intro I x0 H I9 h
  exact c_X10_readsText 16 (a_X10_readsItem := rI0) c_rI0 H h
theorem ps_zero {N : Nat → Int32} {j : Nat} : ∀ n, sIt (fun i M => upd M i 0) n N j = if j < n then 0 else N j
  | 0 => by rw [if_neg (Nat.not_lt_zero _)]; rfl
  | n + 1 => by
    show upd (sIt (fun i M => upd M i 0) n N) n 0 j = _
    by_cases h : j = n
    · rw [h, upd_s, if_pos (Nat.lt_succ_self n)]
    · rw [upd_n h, ps_zero n]
      by_cases h2 : j < n
      · rw [if_pos h2, if_pos (by omega)]
      · rw [if_neg h2, if_neg (by omega)]
noncomputable def psEnd (m : Nat) (R : Option Mem) : Option (Int32 × Mem) := b1 R fun I23 => if (I23 m 10) ≤ 0 then (b1 (pu I23 m 6 1) fun I25 => b1 (pu I25 m 7 0) fun I26 => b1 (ix 0 2) fun j27 => b1 (pu I26 (m + 5) j27 (vp_nar .boolean 0)) fun I28 => b1 (ix 1 2) fun j29 => b1 (pu I28 (m + 5) j29 (vp_nar .boolean 0)) fun I30 => b1 (ix 4 355) fun j31 => some ((I30 (m + 1) j31), I30)) else (b1 (pu I23 m 0 2) fun I32 => b2 (f_X10_back I32 m 0) fun v33 I34 => some (v33, I34))
theorem ps_loop {T : Mem → Nat → Option Mem} : l_X10_parseSetup_61 T FU J m 0 = psEnd m (T (sM J m (upd (upd (upd (upd (sIt (fun i M => upd M i 0) 355 (J (m + 1))) 5 3) 6 10) 8 (-1)) 9 (-1))) m) := by
  have h := (mem_loop (I := J) (m := m) (n := 355) (N := J (m + 1)) (fun f M i => l_X10_parseSetup_61 T f M m i) (fun i M => upd M i 0) (fun _ => True) (fun N' => psEnd m (T (sM J m (upd (upd (upd (upd N' 5 3) 6 10) 8 (-1)) 9 (-1))) m)) trivial (by decide) (fun i hi N' _ => ⟨trivial, fun f => by
    show (if (355 : Int32) ≤ nI i then _ else (b1 (ix (nI i) 355) fun j36 => b1 (pu (sM J m N') (m + 1) j36 0) fun I37 => l_X10_parseSetup_61 T f I37 m (nI i + 1))) = _
    rw [if_neg (show ¬ (355 : Int32) ≤ nI i by rw [show (355 : Int32) = nI 355 from rfl, nJ_ef hi (by decide)]; exact fun h => h), ix_n hi (by decide), b1_so, pu_so, b1_so, u2_sM sM_s, sM_sM, nI_s1]⟩) (fun N' _ f => by
    show (if (355 : Int32) ≤ nI 355 then _ else _) = _
    rw [if_pos (show (355 : Int32) ≤ nI 355 by decide), ix5, b1_so, pu_so, b1_so, u2_sM sM_s, sM_sM, ix6, b1_so, pu_so, b1_so, u2_sM sM_s, sM_sM, ix8, b1_so, pu_so, b1_so, u2_sM sM_s, sM_sM, ix9, b1_so, pu_so, b1_so, u2_sM sM_s, sM_sM]
    rfl)).1
  rw [sM_i] at h
  exact h
theorem ps_pre (hf : f ≤ 500) (hn : n ≤ f) (h9 : J m 9 = nI f) : ∃ J1, f_X10_parseSetup (f_X10_readsText rI0) J m (nI n) = psEnd m (f_X10_readsText rI0 J1 m) ∧ (∀ i, i < 355 → J1 (m + 2) i = J (m + 1) i) ∧ NB (J1 (m + 1)) ∧ (∀ a, a ≠ m → a ≠ m + 1 → a ≠ m + 2 → J1 a = J a) ∧ ((J1 m 12 = nI n ∧ J1 m 13 = 0 ∧ J1 m 9 = 0 ∧ J1 m 10 = 0) ∧ J1 m 11 = -1 ∧ J1 m 17 = 0 ∧ J1 m 18 = 0 ∧ J1 m 0 = 0) ∧ ∀ j, ((1 ≤ j ∧ j < 9) ∨ 18 < j) → J1 m j = J m j := by
  have hr : ¬ nI n < 0 ∧ ¬ nI f < nI n := ⟨by rw [show (0 : Int32) = nI 0 from rfl, ilt (by omega) (by decide)]; omega, by rw [ilt (by omega) (by omega)]; omega⟩
  have h8 := r_may (I := J) (m := m) (a := ¬ nI n < 0 ∧ ¬ nI f < nI n) (b := True) (c := True)
  rw [bI_tr, bI_t (p := (¬ nI n < 0 ∧ ¬ nI f < nI n)) hr, bI_t (p := (¬ nI n < 0 ∧ ¬ nI f < nI n) ∧ True ∧ True) ⟨hr, trivial, trivial⟩, th3_0 hr trivial trivial] at h8
  have hJ : ∀ J12, J12 = u2 (u2 (u2 (u2 (u2 (u2 (u2 (u2 J m 0 0) m 12 (nI n)) m 13 0) m 9 0) m 10 0) m 11 (-1)) m 17 0) m 18 0 → (∀ a, a ≠ m → J12 a = J a) ∧ ((J12 m 12 = nI n ∧ J12 m 13 = 0 ∧ J12 m 9 = 0 ∧ J12 m 10 = 0) ∧ J12 m 11 = -1 ∧ J12 m 17 = 0 ∧ J12 m 18 = 0 ∧ J12 m 0 = 0) ∧ ∀ j, ((1 ≤ j ∧ j < 9) ∨ 18 < j) → J12 m j = J m j := fun J12 e => by
    subst e
    refine ⟨fun a ha => ?_, ⟨⟨?_, ?_, ?_, ?_⟩, ?_, ?_, ?_, ?_⟩, fun j hj => ?_⟩
    · rw [u2_a ha, u2_a ha, u2_a ha, u2_a ha, u2_a ha, u2_a ha, u2_a ha, u2_a ha]
    · rw [u2_k (by decide), u2_k (by decide), u2_k (by decide), u2_k (by decide), u2_k (by decide), u2_k (by decide), u2_s]
    · rw [u2_k (by decide), u2_k (by decide), u2_k (by decide), u2_k (by decide), u2_k (by decide), u2_s]
    · rw [u2_k (by decide), u2_k (by decide), u2_k (by decide), u2_k (by decide), u2_s]
    · rw [u2_k (by decide), u2_k (by decide), u2_k (by decide), u2_s]
    · rw [u2_k (by decide), u2_k (by decide), u2_s]
    · rw [u2_k (by decide), u2_s]
    · rw [u2_s]
    · rw [u2_k (by decide), u2_k (by decide), u2_k (by decide), u2_k (by decide), u2_k (by decide), u2_k (by decide), u2_k (by decide), u2_s]
    · rw [u2_k (by omega), u2_k (by omega), u2_k (by omega), u2_k (by omega), u2_k (by omega), u2_k (by omega), u2_k (by omega), u2_k (by omega)]
  have hs : f_X10_parseSetup (f_X10_readsText rI0) J m (nI n) = (b1 (f_X10_thinks (u2 (u2 (u2 (u2 (u2 (u2 (u2 (u2 J m 0 0) m 12 (nI n)) m 13 0) m 9 0) m 10 0) m 11 (-1)) m 17 0) m 18 0) m) fun I13 => l_X10_parseSetup_61 (f_X10_readsText rI0) FU I13 m 0) := by
    unfold f_X10_parseSetup
    rw [h9, r_in, b1_so, bI_t hr, h8, b2_so, if_neg (by decide), pu_so, b1_so, pu_so, b1_so, pu_so, b1_so, pu_so, b1_so, pu_so, b1_so, pu_so, b1_so, pu_so, b1_so]
  obtain ⟨g1, g2, g3⟩ := hJ _ rfl
  generalize u2 (u2 (u2 (u2 (u2 (u2 (u2 (u2 J m 0 0) m 12 (nI n)) m 13 0) m 9 0) m 10 0) m 11 (-1)) m 17 0) m 18 0 = J12 at hs g1 g2 g3
  obtain ⟨J13, l1, l2, l3, -⟩ := r_lays (I := J12) (a := m + 1) (b := m + 2) (na := 355) (nb := 355) (i := 0) (j := 0) (by omega) (by omega) (by decide) (by decide) (by decide)
  have l1' : f_X10_lays J12 (m + 1) 355 0 (m + 2) 355 0 = some J13 := l1
  have em : J13 m = J12 m := l2 m (by omega)
  refine ⟨sM J13 m (upd (upd (upd (upd (sIt (fun i M => upd M i 0) 355 (J13 (m + 1))) 5 3) 6 10) 8 (-1)) 9 (-1)), ?_, fun i hi => ?_, ?_, fun a h1 h2 h3 => ?_, ?_, fun j hj => ?_⟩
  · rw [hs]
    unfold f_X10_thinks
    rw [l1', b1_so, b1_so, ps_loop]
  · have := l3 i hi
    rw [Nat.zero_add] at this
    rw [sM_n (by omega), this, g1 _ (by omega)]
  · rw [sM_s]
    have hz : ∀ j, j < 355 → j ≠ 5 → j ≠ 6 → j ≠ 8 → j ≠ 9 → upd (upd (upd (upd (sIt (fun i M => upd M i 0) 355 (J13 (m + 1))) 5 3) 6 10) 8 (-1)) 9 (-1) j = 0 := fun j h0 h5 h6 h8 h9 => by
      rw [upd_n h9, upd_n h8, upd_n h6, upd_n h5, ps_zero, if_pos h0]
    exact ⟨⟨hz 1 (by decide) (by decide) (by decide) (by decide) (by decide), hz 2 (by decide) (by decide) (by decide) (by decide) (by decide), hz 3 (by decide) (by decide) (by decide) (by decide) (by decide), hz 4 (by decide) (by decide) (by decide) (by decide) (by decide)⟩, ⟨by rw [upd_n (by decide), upd_n (by decide), upd_n (by decide), upd_s], by rw [upd_n (by decide), upd_n (by decide), upd_s], by rw [upd_n (by decide), upd_s], upd_s⟩, hz 10 (by decide) (by decide) (by decide) (by decide) (by decide), hz 7 (by decide) (by decide) (by decide) (by decide) (by decide)⟩
  · rw [sM_n h2, l2 a h3, g1 a h1]
  · rw [sM_n (by omega), em]
    exact g2
  · rw [sM_n (by omega), em]
    exact g3 j hj
/-- the class's reader, up to its text -/
noncomputable def tX (I : Mem) (k r : Nat) : Option (Int32 × Mem × Nat) := e3 (f_X5_readMarket I k r) (fun E I8 k9 => cEx E (some (0, I8, k9))) fun v7 I8 k9 => e3 (f_X5_isItemNext I8 k9 r) (fun E I12 k13 => cEx E (some (0, I12, k13))) fun v11 I12 k13 => l_X5_read_39 FU I12 k13 r v11 0
theorem read_row (h1 : I (r + 1) 1 = nI f) (hn : n ≤ f ∧ f ≤ 500) : ∃ I5, f_X5_read I k r (nI n) = tX I5 k r ∧ (I5 (r + 1) 2 = nI n ∧ I5 (r + 1) 3 = 0) ∧ (∀ a, a ≠ r → a ≠ r + 1 → I5 a = I a) ∧ I5 r 6 = 0 ∧ I5 r 7 = 0 ∧ I5 r 2 = 0 ∧ I5 r 3 = -1 := by
  refine ⟨u2 (u2 (u2 (u2 (u2 (u2 I r 2 0) r 3 (-1)) r 6 0) r 7 0) (r + 1) 2 (nI n)) (r + 1) 3 0, ?_, ⟨?_, u2_s⟩, fun a h1 h2 => ?_, ?_, ?_, ?_, ?_⟩
  · unfold f_X5_read f_X7_startAnew
    rw [pu_so, b1_so, pu_so, b1_so, pu_so, b1_so, pu_so, b1_so]
    have e : u2 (u2 (u2 (u2 I r 2 0) r 3 (-1)) r 6 0) r 7 0 (r + 1) 1 = nI f := by rw [u2_a (by omega), u2_a (by omega), u2_a (by omega), u2_a (by omega)]; exact h1
    rw [e]
    have e2 : (if nI f < nI n then nI f else nI n) = nI n := if_neg (by rw [ilt (by omega) (by omega)]; omega)
    rw [e2, pu_so, b1_so, pu_so, b1_so, b1_so]
    rfl
  · rw [u2_k (by decide), u2_s]
  · rw [u2_a h2, u2_a h2, u2_a h1, u2_a h1, u2_a h1, u2_a h1]
  · rw [u2_a (by omega), u2_a (by omega), u2_k (by decide), u2_s]
  · rw [u2_a (by omega), u2_a (by omega), u2_s]
  · rw [u2_a (by omega), u2_a (by omega), u2_k (by decide), u2_k (by decide), u2_k (by decide), u2_s]
  · rw [u2_a (by omega), u2_a (by omega), u2_k (by decide), u2_k (by decide), u2_s]
theorem l88 : l_X9_parseSetup_88 FU I k w 0 = some (.ok (u2 (u2 I (w + 101) 0 0) (w + 101) 1 0 (w + 37) 5), u2 (u2 I (w + 101) 0 0) (w + 101) 1 0, k) := by
  obtain ⟨F, hF⟩ := FU8
  rw [hF]
  show (if (2 : Int32) ≤ 0 then _ else (b1 (ix 0 2) fun j10 => b1 (pu I (w + 101) j10 (vp_nar .boolean 0)) fun I11 => l_X9_parseSetup_88 (F + 7) I11 k w (0 + 1))) = _
  rw [if_neg (by decide), show ix 0 2 = some 0 from rfl, b1_so, pu_so, b1_so]
  show (if (2 : Int32) ≤ 0 + 1 then _ else (b1 (ix (0 + 1) 2) fun j10 => b1 (pu (u2 I (w + 101) 0 (vp_nar .boolean 0)) (w + 101) j10 (vp_nar .boolean 0)) fun I11 => l_X9_parseSetup_88 (F + 6) I11 k w (0 + 1 + 1))) = _
  rw [if_neg (by decide), show ix (0 + 1) 2 = some 1 from rfl, b1_so, pu_so, b1_so]
  show (if (2 : Int32) ≤ 0 + 1 + 1 then _ else _) = _
  rw [if_pos (by decide)]
  rfl
theorem kk_id (h : kG K q 5 = some (xE k)) : kk K q k = K := by
  obtain ⟨a, b, g, c⟩ := K
  have h' : g q 5 = some (xE k) := h
  show (a, b, u2 g q 5 (some (xE k)), c) = _
  rw [show u2 g q 5 (some (xE k)) = g from by
    funext c j
    by_cases h1 : c = q
    · by_cases h2 : j = 5
      · rw [h1, h2, u2_s, h']
      · rw [h1, u2_k h2]
    · rw [u2_a h1]]
theorem vOf_kk : vOf (kk K (w + 1 + 1) k) (w + 102) = vOf K (w + 102) := by
  unfold vOf
  rw [kk_a (by omega)]
theorem nOf_kk : nOf (kk K (w + 1 + 1) k) (w + 102) = nOf K (w + 102) := by
  unfold nOf
  rw [vOf_kk]
  rfl
theorem SL.kk (h : SL K w m) (hk : k < 7) : SL (kk K (w + 1 + 1) k) w m := by
  have hm := h.2.2.1
  refine ⟨⟨h.1.1.kk, ⟨h.1.2.1.o, ?_, ?_⟩, ?_⟩, ⟨k, hk, kk_k⟩, h.2.2.1, by rw [vOf_kk]; exact h.2.2.2⟩
  · rw [vOf_kk, kk_a (by omega)]; exact h.1.2.1.g
  · rw [vOf_kk, nOf_kk]; exact h.1.2.1.l
  · have M := h.1.2.2
    exact ⟨M.1, ⟨⟨(kk_a (by omega)).trans M.g1, (kk_a (by omega)).trans M.g2⟩, ⟨(kk_a (by omega)).trans M.g3, (kk_a (by omega)).trans M.g4⟩, ⟨(kk_a (by omega)).trans M.g5, (kk_a (by omega)).trans M.g6⟩, (kk_a (by omega)).trans M.g7⟩, M.2.2⟩
theorem SO2.kk (h : SO2 I J K w m kb gb) : SO2 I J (kk K (w + 1 + 1) k) w m kb gb := by
  unfold SO2
  rw [vOf_kk, nOf_kk]
  exact h
theorem SO2.fr (h : SO2 I J K w m kb gb) (h1 : I' (w + 102) = I (w + 102)) (h2 : I' (vOf K (w + 102)) = I (vOf K (w + 102))) (h3 : J' m 20 = J m 20) (h4 : J' (m + 7) = J (m + 7)) : SO2 I' J' K w m kb gb := by
  obtain ⟨⟨n, n1, n2, n3, n4⟩, o2, o3⟩ := h
  exact ⟨⟨n, n1, by rw [h1, h3]; exact n2, n3, by rw [h2, h4]; exact n4⟩, by rw [h2]; exact o2, o3⟩
theorem lc_parseSetup (S : ST I K w m kb gb D) (hD : 2000 ≤ D) {x : Int32} : LC (mX9_parseSetup 12) cX9_parseSetup (mX10_parseSetup 23) cX10_parseSetup [eIX, eIA] [.int x] I K w m kb gb (D + 300) := by
  have S0 := S
  have hm := S.lo
  obtain ⟨hL, ⟨l, hA⟩, hBB, ⟨u, v, hU⟩, hV, hP, ⟨f, ⟨f1, f2, f3⟩, f4⟩, hO⟩ := S
  obtain ⟨k, hk, hk2⟩ := hL.2.1
  have hvv := hL.2.2.2
  have hu := hU.1
  have eK := kk_id hk2
  by_cases hx : ¬ x < 0 ∧ ¬ nI f < x
  · obtain ⟨n, rfl, hn⟩ := rng_of (a := 0) (b := f) hx (by omega)
    obtain ⟨I5, a1, a2, a3, a4⟩ := read_row (r := w + 1) (k := k) f2 ⟨hn, f1⟩
    have hT : ∀ J1 : Mem, NB (J1 (m + 1)) → J1 (m + 6) = I (m + 6) → ((J1 m 12 = nI n ∧ J1 m 13 = 0 ∧ J1 m 9 = 0 ∧ J1 m 10 = 0) ∧ J1 m 11 = -1 ∧ J1 m 17 = 0 ∧ J1 m 18 = 0 ∧ J1 m 0 = 0) → Fin I5 J1 (w + 1) m (tX I5 k (w + 1)) (f_X10_readsText rI0 J1 m) := fun J1 h1 h2 h3 =>
      text_row (B := I (m + 6)) (n := n) (hBB.1.1.fr fun a _ _ => a3 a (by omega) (by omega)) (by omega) ⟨⟨a2.1, a2.2⟩, fun i hi => by rw [a3 _ (by omega) (by omega)]; exact f4 i (by omega)⟩ ⟨⟨h3.1.2.2.2, h3.1.1, fun i hi => by rw [h2]⟩, h3.1.2.1, h3.2.1⟩ h1 a4.1 a4.2.1 a4.2.2.1 a4.2.2.2 h3.2.2.1 h3.2.2.2.1
    have hle : nI n ≤ I (w + 1 + 1) 1 := by rw [f2]; exact nlei hn (by omega)
    obtain ⟨J0, -, -, p3, p4, p5, -⟩ := ps_pre (J := I) (m := m) f1 hn f3
    rcases hT J0 p3 (p4 _ (by omega) (by omega) (by omega)) p5 with ⟨I2, J2, k2, N, np, ns, nw, Dd, ⟨X1, -, k7⟩, -, P0, -, fr0, -⟩ | ⟨c, s, I2, J2, k2, ⟨X1, -, k7⟩, -, ⟨fr0, B2⟩, -⟩
    · have B2 := P0.1.2
      clear P0
      obtain ⟨I6, c1, c2, c3⟩ := h_copyFrom (I := u2 I2 (w + 1 + 1) 1 0) (d := w + 37) (s := w + 1 + 3) (Or.inr (by omega)) (B2.fr fun a _ _ => u2_a (by omega))
      have hcl : f_X9_parseSetup I k w (nI n) = some (.ok (u2 (u2 (u2 (u2 I6 w 7 1) w 8 0) (w + 101) 0 0) (w + 101) 1 0 (w + 37) 5), u2 (u2 (u2 (u2 I6 w 7 1) w 8 0) (w + 101) 0 0) (w + 101) 1 0, k2) := by
        unfold f_X9_parseSetup
        rw [if_neg hx.1, if_pos hle, a1, X1, b3_so, pu_so, b1_so, if_neg (by decide), c1, b1_so, pu_so, b1_so, pu_so, b1_so, l88]
      have e2 : ∀ a, (a < w + 1 ∨ w + 36 < a) → I2 a = I a := fun a ha => (fr0 a (by omega)).trans (a3 a (by omega) (by omega))
      have e9 : ∀ a, (a < w ∨ w + 67 < a) → a ≠ w + 101 → u2 (u2 (u2 (u2 I6 w 7 1) w 8 0) (w + 101) 0 0) (w + 101) 1 0 a = I a := fun a h1 h2 => by rw [u2_a h2, u2_a h2, u2_a (by omega), u2_a (by omega), c3 a (by omega), u2_a (by omega), e2 a (by omega)]
      have e9a : ∀ a, w + 1 ≤ a → a ≤ w + 36 → a ≠ w + 1 + 1 → u2 (u2 (u2 (u2 I6 w 7 1) w 8 0) (w + 101) 0 0) (w + 101) 1 0 a = I2 a := fun a h1 h2 h3 => by rw [u2_a (by omega), u2_a (by omega), u2_a (by omega), u2_a (by omega), c3 a (by omega), u2_a h3]
      have e9b : u2 (u2 (u2 (u2 I6 w 7 1) w 8 0) (w + 101) 0 0) (w + 101) 1 0 (w + 1 + 1) 1 = 0 := by rw [u2_a (by omega), u2_a (by omega), u2_a (by omega), u2_a (by omega), c3 _ (by omega), u2_s]
      have e9c : ∀ a, w + 37 ≤ a → a ≤ w + 67 → u2 (u2 (u2 (u2 I6 w 7 1) w 8 0) (w + 101) 0 0) (w + 101) 1 0 a = I6 a := fun a h1 h2 => by rw [u2_a (by omega), u2_a (by omega), u2_a (by omega), u2_a (by omega)]
      have w7 : u2 (u2 (u2 (u2 I6 w 7 1) w 8 0) (w + 101) 0 0) (w + 101) 1 0 w 7 = 1 := by rw [u2_a (by omega), u2_a (by omega), u2_k (by decide), u2_s]
      have w8 : u2 (u2 (u2 (u2 I6 w 7 1) w 8 0) (w + 101) 0 0) (w + 101) 1 0 w 8 = 0 := by rw [u2_a (by omega), u2_a (by omega), u2_s]
      have w9 : u2 (u2 (u2 (u2 I6 w 7 1) w 8 0) (w + 101) 0 0) (w + 101) 1 0 w 9 = I w 9 := by rw [u2_a (by omega), u2_a (by omega), u2_k (by decide), u2_k (by decide), c3 w (by omega), u2_a (by omega), e2 w (by omega)]
      have v0 : u2 (u2 (u2 (u2 I6 w 7 1) w 8 0) (w + 101) 0 0) (w + 101) 1 0 (w + 101) 0 = 0 := by rw [u2_k (by decide), u2_s]
      have v1 : u2 (u2 (u2 (u2 I6 w 7 1) w 8 0) (w + 101) 0 0) (w + 101) 1 0 (w + 101) 1 = 0 := u2_s
      generalize u2 (u2 (u2 (u2 I6 w 7 1) w 8 0) (w + 101) 0 0) (w + 101) 1 0 = I9 at hcl e9 e9a e9b e9c w7 w8 w9 v0 v1
      obtain ⟨J1, q1, -, q3, q4, q5, q6⟩ := ps_pre (J := I9) (m := m) f1 hn (by rw [e9 m (by omega) (by omega)]; exact f3)
      rcases hT J1 q3 ((q4 _ (by omega) (by omega) (by omega)).trans (e9 _ (by omega) (by omega))) q5 with ⟨I2', J2, k2', N, np, ns, nw, Dd, ⟨X2, R2, -⟩, ⟨y1, y2, y3⟩, P, Z, -, G⟩ | ⟨c, s, I2', J2, k2', ⟨X2, -, -⟩, -⟩
      · obtain rfl : I2 = I2' := congrArg (fun z => z.2.1) (Option.some.inj (X1.symm.trans X2))
        have hj : f_X10_parseSetup (f_X10_readsText rI0) I9 m (nI n) = some (N 4, u2 (u2 (u2 (u2 J2 m 6 1) m 7 0) (m + 5) 0 0) (m + 5) 1 0) := by
          rw [q1, R2]
          unfold psEnd
          rw [b1_so, if_pos (by rw [y1.1]; decide), pu_so, b1_so, pu_so, b1_so, show ix 0 2 = some 0 from rfl, b1_so, pu_so, b1_so, show ix 1 2 = some 1 from rfl, b1_so, pu_so, b1_so, ix4, b1_so, u2_a (by omega), u2_a (by omega), u2_a (by omega), u2_a (by omega), P.2.1]
          rfl
        have j1 : u2 (u2 (u2 (u2 J2 m 6 1) m 7 0) (m + 5) 0 0) (m + 5) 1 0 (m + 1) = N := by rw [u2_a (by omega), u2_a (by omega), u2_a (by omega), u2_a (by omega), P.2.1]
        have j2 : ∀ a, a ≠ m → a ≠ m + 1 → a ≠ m + 2 → a ≠ m + 5 → u2 (u2 (u2 (u2 J2 m 6 1) m 7 0) (m + 5) 0 0) (m + 5) 1 0 a = I9 a := fun a h1 h2 h3 h4 => by rw [u2_a h4, u2_a h4, u2_a h1, u2_a h1, G.1 a h1 h2, q4 a h1 h2 h3]
        have jm6 : u2 (u2 (u2 (u2 J2 m 6 1) m 7 0) (m + 5) 0 0) (m + 5) 1 0 m 6 = 1 := by rw [u2_a (by omega), u2_a (by omega), u2_k (by decide), u2_s]
        have jm7 : u2 (u2 (u2 (u2 J2 m 6 1) m 7 0) (m + 5) 0 0) (m + 5) 1 0 m 7 = 0 := by rw [u2_a (by omega), u2_a (by omega), u2_s]
        have jm : ∀ j, j ≠ 6 → j ≠ 7 → u2 (u2 (u2 (u2 J2 m 6 1) m 7 0) (m + 5) 0 0) (m + 5) 1 0 m j = J2 m j := fun j h1 h2 => by rw [u2_a (by omega), u2_a (by omega), u2_k h2, u2_k h1]
        have j50 : u2 (u2 (u2 (u2 J2 m 6 1) m 7 0) (m + 5) 0 0) (m + 5) 1 0 (m + 5) 0 = 0 := by rw [u2_k (by decide), u2_s]
        have j51 : u2 (u2 (u2 (u2 J2 m 6 1) m 7 0) (m + 5) 0 0) (m + 5) 1 0 (m + 5) 1 = 0 := u2_s
        generalize u2 (u2 (u2 (u2 J2 m 6 1) m 7 0) (m + 5) 0 0) (m + 5) 1 0 = J9 at hj j1 j2 jm6 jm7 jm j50 j51
        have R9 : RM I9 (w + 37) N np ns nw := (c2.rm (P.1.1.fr fun a _ _ => u2_a (by omega))).fr fun a h1 h2 => e9c a h1 (by omega)
        obtain ⟨F9, ⟨d, d1, d2⟩, C9⟩ := P.2.2.1
        have hDd := P.2.2.2.2
        have hSn : Snap I9 (w + 37) N (D + 300) := ⟨np, ns, nw, R9, F9, ⟨d, d1, by omega⟩, C9.1, C9.2, Z⟩
        have hS2 : ST2 I9 J9 (kk K (w + 1 + 1) k2) w m kb gb (D + 300) := by
          refine ⟨hL.kk k7, ⟨true, ⟨w7.trans (bI_t rfl).symm, jm6.trans (bI_t rfl).symm⟩, fun _ => by rw [j1]; exact hSn⟩, ⟨⟨B2.fr fun a _ _ => e9a a (by omega) (by omega) (by omega), (c2.bm (B2.fr fun a _ _ => u2_a (by omega))).fr fun a h1 h2 => e9c a h1 (by omega), hBB.1.2.2.fr fun a _ _ => e9 a (by omega) (by omega)⟩, fun i h => (hBB.2.1 i h).fr fun a _ _ => e9 a (by omega) (by omega), fun i h => (hBB.2.2 i h).fr fun a _ _ => e9 a (by omega) (by omega)⟩, ⟨0, v, ⟨by decide, hu.2⟩, ⟨w8, jm7, w9.trans hU.2.1.2.2⟩, fun j hj => absurd hj (Nat.not_lt_zero j)⟩, fun i hi => Or.inl ?_, ⟨?_, ?_⟩, ⟨0, ⟨Nat.zero_le _, e9b, ?_⟩, fun i hi => absurd hi (Nat.not_lt_zero i)⟩, SO2.kk ?_⟩
          · rcases (show i = 0 ∨ i = 1 by omega) with rfl | rfl
            · exact ⟨v0, j50⟩
            · exact ⟨v1, j51⟩
          · rw [e9a _ (by omega) (by omega) (by omega), y2, jm 10 (by decide) (by decide), y1.1]
          · rw [e9a _ (by omega) (by omega) (by omega), y3, jm 11 (by decide) (by decide), y1.2]
          · rw [jm 9 (by decide) (by decide), G.2 9 (by decide)]; exact q5.1.2.2.1
          · exact SO2.fr (I := I) (J := I) hO (e9 _ (by omega) (by omega)) (e9 _ (by omega) (by omega)) (by rw [jm 20 (by decide) (by decide), G.2 20 (by decide), q6 20 (by decide), e9 m (by omega) (by omega)]) ((j2 _ (by omega) (by omega) (by omega) (by omega)).trans (e9 _ (by omega) (by omega)))
        have cc := c_X9_parseSetup 0 S0.lw hcl
        rw [eK] at cc
        exact ⟨_, 0, N 4, I9, J9, kk K (w + 1 + 1) k2, 2, 12, ⟨cc, Ec0, fun Kj hM => c_X10_parseSetup 20 c_rT hM hj⟩, ⟨by rw [jm 0 (by decide) (by decide), G.2 0 (by decide)]; exact q5.2.2.2.2, fun v h => by cases h; exact R9.f.w.1.trans R9.h5.symm⟩, hS2.fin fun a ha => j2 a (by omega) (by omega) (by omega) (by omega), ⟨⟨Nat.le_refl _, Nat.le_refl _⟩, ⟨Nat.le_refl _, fun _ _ => rfl⟩⟩, Nat.le_add_right _ _, Nat.le_add_right _ _⟩
      · exact absurd (congrArg Prod.fst (Option.some.inj (X1.symm.trans X2))) (show ¬ (1 : Int32) = 0 by decide)
    · have hcl : f_X9_parseSetup I k w (nI n) = some (.error eIA, u2 I2 (w + 1 + 1) 1 0, k2) := by
        unfold f_X9_parseSetup
        rw [if_neg hx.1, if_pos hle, a1, X1, b3_so, pu_so, b1_so, if_pos rfl]
      have e2 : ∀ a, (a < w + 1 ∨ w + 36 < a) → I2 a = I a := fun a ha => (fr0 a (by omega)).trans (a3 a (by omega) (by omega))
      have e9 : ∀ a, (a < w + 1 ∨ w + 36 < a) → u2 I2 (w + 1 + 1) 1 0 a = I a := fun a h1 => by rw [u2_a (by omega), e2 a h1]
      have e9a : ∀ a, a ≠ w + 1 + 1 → u2 I2 (w + 1 + 1) 1 0 a = I2 a := fun a h => u2_a h
      have e9b : u2 I2 (w + 1 + 1) 1 0 (w + 1 + 1) 1 = 0 := u2_s
      generalize u2 I2 (w + 1 + 1) 1 0 = I9 at hcl e9 e9a e9b
      obtain ⟨J1, q1, q2, q3, q4, q5, q6⟩ := ps_pre (J := I9) (m := m) f1 hn (by rw [e9 m (by omega)]; exact f3)
      rcases hT J1 q3 ((q4 _ (by omega) (by omega) (by omega)).trans (e9 _ (by omega))) q5 with ⟨I2', J2, k2', N, np, ns, nw, Dd, ⟨X2, R2, -⟩, -⟩ | ⟨c, s, I2', J2, k2', ⟨X2, R2, -⟩, ⟨y1, y2, F⟩, -, G⟩
      · exact absurd (congrArg Prod.fst (Option.some.inj (X1.symm.trans X2))) (show ¬ (0 : Int32) = 1 by decide)
      · obtain rfl : I2 = I2' := congrArg (fun z => z.2.1) (Option.some.inj (X1.symm.trans X2))
        obtain ⟨J9, z1, z2, z3, -⟩ := r_lays (I := u2 J2 m 0 2) (a := m + 2) (b := m + 1) (na := 355) (nb := 355) (i := 0) (j := 0) (by omega) (by omega) (by decide) (by decide) (by decide)
        have z1' : f_X10_lays (u2 J2 m 0 2) (m + 2) 355 0 (m + 1) 355 0 = some J9 := z1
        have hj : f_X10_parseSetup (f_X10_readsText rI0) I9 m (nI n) = some (0, J9) := by
          rw [q1, R2]
          unfold psEnd f_X10_back
          rw [b1_so, if_neg F.l0, pu_so, b1_so, z1', b1_so, b2_so]
        have j2 : ∀ a, a ≠ m → a ≠ m + 1 → a ≠ m + 2 → J9 a = I9 a := fun a h1 h2 h3 => by rw [z2 a h2, u2_a h1, G.1 a h1 h2, q4 a h1 h2 h3]
        have j0 : J9 m 0 = 2 := by rw [z2 m (by omega), u2_s]
        have jm : ∀ j, j ≠ 0 → J9 m j = J2 m j := fun j h => by rw [z2 m (by omega), u2_k h]
        have jk : ∀ j, ((1 ≤ j ∧ j < 9) ∨ 18 < j) → J9 m j = I m j := fun j h => by rw [jm j (by omega), G.2 j (by omega), q6 j h, e9 m (by omega)]
        have j1 : ∀ i, i < 355 → J9 (m + 1) i = I (m + 1) i := fun i hi => by
          have := z3 i hi
          rw [Nat.zero_add] at this
          rw [this, u2_a (by omega), G.1 _ (by omega) (by omega), q2 i hi, e9 _ (by omega)]
        have hS2 : ST2 I9 J9 (kk K (w + 1 + 1) k2) w m kb gb (D + 300) := by
          refine ⟨hL.kk k7, ⟨l, ⟨by rw [e9 w (by omega)]; exact hA.1.1, by rw [jk 6 (by decide)]; exact hA.1.2⟩, fun h => (((hA.2 h).fr fun a _ _ => e9 a (by omega)).eqN j1).le (Nat.le_add_right _ _)⟩, ⟨⟨B2.fr fun a _ _ => e9a a (by omega), hBB.1.2.1.fr fun a _ _ => e9 a (by omega), hBB.1.2.2.fr fun a _ _ => e9 a (by omega)⟩, fun i h => (hBB.2.1 i h).fr fun a _ _ => e9 a (by omega), fun i h => (hBB.2.2 i h).fr fun a _ _ => e9 a (by omega)⟩, ⟨u, v, hU.1, ⟨by rw [e9 w (by omega)]; exact hU.2.1.1, by rw [jk 7 (by decide)]; exact hU.2.1.2.1, by rw [e9 w (by omega)]; exact hU.2.1.2.2⟩, fun j hj => by rw [j2 (m + 3) (by omega) (by omega) (by omega), e9 (m + 3) (by omega)]; exact ((hU.2.2 j hj).fr fun a _ _ => e9 a (by omega)).le (Nat.le_add_right _ _)⟩, fun i hi => ?_, ⟨?_, ?_⟩, ⟨0, ⟨Nat.zero_le _, e9b, ?_⟩, fun i hi => absurd hi (Nat.not_lt_zero i)⟩, SO2.kk ?_⟩
          · rw [e9 (w + 101) (by omega), j2 (m + 5) (by omega) (by omega) (by omega), j2 (m + 4) (by omega) (by omega) (by omega), e9 (m + 5) (by omega), e9 (m + 4) (by omega)]
            exact (hV i hi).imp id fun h => ⟨h.1, h.2.1, (h.2.2.fr fun a _ _ => e9 a (by omega)).le (Nat.le_add_right _ _)⟩
          · rw [e9a _ (by omega), y1, jm 10 (by decide), F.1.1]
          · rw [e9a _ (by omega), y2, jm 11 (by decide), F.1.2]
          · rw [jm 9 (by decide), G.2 9 (by decide)]; exact q5.1.2.2.1
          · exact SO2.fr (I := I) (J := I) hO (e9 _ (by omega)) (e9 _ (by omega)) (jk 20 (by decide)) ((j2 _ (by omega) (by omega) (by omega)).trans (e9 _ (by omega)))
        have cc := c_X9_parseSetup 0 S0.lw hcl
        rw [eK] at cc
        exact ⟨_, 2, 0, I9, J9, kk K (w + 1 + 1) k2, 2, 12, ⟨cc, Ec2, fun Kj hM => c_X10_parseSetup 20 c_rT hM hj⟩, ⟨j0, fun v h => by cases h⟩, hS2.fin fun a ha => j2 a (by omega) (by omega) (by omega), ⟨⟨Nat.le_refl _, Nat.le_refl _⟩, ⟨Nat.le_refl _, fun _ _ => rfl⟩⟩, Nat.le_add_right _ _, Nat.le_add_right _ _⟩
  · have hcl : f_X9_parseSetup I k w x = some (.error eIX, I, k) := by
      unfold f_X9_parseSetup l_X9_parseSetup_18
      by_cases h0 : x < 0
      · rw [if_pos h0]
      · rw [if_neg h0, f2, if_neg (fun z => hx ⟨h0, Int32.not_lt.mpr z⟩)]
    have hj : f_X10_parseSetup (f_X10_readsText rI0) I m x = some (0, u2 I m 0 1) := by
      have h8 := r_may (I := I) (m := m) (a := ¬ x < 0 ∧ ¬ nI f < x) (b := True) (c := True)
      rw [bI_tr, bI_f (p := (¬ x < 0 ∧ ¬ nI f < x)) hx, bI_f (p := (¬ x < 0 ∧ ¬ nI f < x) ∧ True ∧ True) (fun h => hx h.1), th3_1 hx] at h8
      unfold f_X10_parseSetup
      rw [f3, r_in, b1_so, bI_f hx, h8, b2_so, if_pos rfl]
    have cc := c_X9_parseSetup 0 S0.lw hcl
    rw [eK] at cc
    exact ⟨_, 1, 0, I, u2 I m 0 1, K, 2, 12, ⟨cc, Ec1, fun Kj hM => c_X10_parseSetup 20 c_rT hM hj⟩, ⟨u2_s, fun v h => by cases h⟩, S0.th.le (Nat.le_add_right _ _), ⟨Gm.refl, KA.refl⟩, Nat.le_add_right _ _, Nat.le_add_right _ _⟩
end PSE
