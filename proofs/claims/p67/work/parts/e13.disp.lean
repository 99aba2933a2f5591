/-! the items, told apart -/
section DSP
variable {I J I1 I2 I3 J1 J2 J3 I' J' : Mem} {B : Nat → Int32} {n p r k m c s np ns nw D : Nat} {N N' M : Nat → Int32}
def Out0 (I J : Mem) (r m : Nat) (B : Nat → Int32) (n p : Nat) (C : Option (Except String Int32 × Mem × Nat)) (R : Option Mem) : Prop :=
  (∃ I' J' k' p' N' np ns nw D, (C = some (.ok 0, I', k') ∧ R = some J' ∧ k' < 7) ∧ (Af I' J' r m B n p' ∧ FS B p p') ∧ PM I' J' r m N' np ns nw D ∧ ((∀ a, (a < r ∨ r + 33 < a) → I' a = I a) ∧ I' r 6 = I r 6 ∧ I' r 2 = I r 2 ∧ I' r 3 = I r 3) ∧ ((∀ a, a ≠ m → a ≠ m + 1 → J' a = J a) ∧ ∀ j, (j < 10 ∨ j = 17 ∨ 18 < j) → J' m j = J m j)) ∨
  (∃ c s I' J' k', (C = some (.error eIA, I', k') ∧ R = some J' ∧ k' < 7) ∧ (I' r 2 = nI c ∧ I' r 3 = nI s ∧ Flt J' m c s) ∧ ((∀ a, (a < r ∨ r + 33 < a) → I' a = I a) ∧ BM I' (r + 3)) ∧ (∀ a, a ≠ m → a ≠ m + 1 → J' a = J a) ∧ ∀ j, (j < 10 ∨ 18 < j) → J' m j = J m j)
theorem Out.w {α : Type} {C : Option (Except String α × Mem × Nat)} {R : Option Mem} (h : Out I J r m B n p C R) : Out0 I J r m B n p (e3 C (fun E I k => some (.error E, I, k)) fun _ I k => some (.ok 0, I, k)) R := by
  rcases h with ⟨v, I', J', k', p', N', np, ns, nw, D, ⟨h1, h2, h3⟩, h4⟩ | ⟨c, s, I', J', k', ⟨h1, h2, h3⟩, h4⟩
  · exact Or.inl ⟨I', J', k', p', N', np, ns, nw, D, ⟨by rw [h1, e3_ok], h2, h3⟩, h4⟩
  · exact Or.inr ⟨c, s, I', J', k', ⟨by rw [h1, e3_er], h2, h3⟩, h4⟩
theorem Out.z {C : Option (Except String Int32 × Mem × Nat)} {R : Option Mem} (h : Out I J r m B n p C R) (hz : ∀ v I k, C = some (.ok v, I, k) → v = 0) : Out0 I J r m B n p C R := by
  rcases h with ⟨v, I', J', k', p', N', np, ns, nw, D, ⟨h1, h2, h3⟩, h4⟩ | h
  · obtain rfl := hz v I' k' h1
    exact Or.inl ⟨I', J', k', p', N', np, ns, nw, D, ⟨h1, h2, h3⟩, h4⟩
  · exact Or.inr h
theorem Out0.it {C : Option (Except String Int32 × Mem × Nat)} {R : Option Mem} (h : Out0 I1 J r m B n p C R) (g : It I I1 r) : Out0 I J r m B n p C R := by
  rcases h with ⟨I', J', k', p', N', np, ns, nw, D, h1, h2, h3, ⟨h4, h5⟩, h6⟩ | ⟨c, s, I', J', k', h1, h2, ⟨h4, h5⟩, h6⟩
  · exact Or.inl ⟨I', J', k', p', N', np, ns, nw, D, h1, h2, h3, ⟨fun a ha => (h4 a ha).trans (g a (by omega)), h5.1.trans (congrFun (g r (by omega)) 6), h5.2.1.trans (congrFun (g r (by omega)) 2), h5.2.2.trans (congrFun (g r (by omega)) 3)⟩, h6⟩
  · exact Or.inr ⟨c, s, I', J', k', h1, h2, ⟨fun a ha => (h4 a ha).trans (g a (by omega)), h5⟩, h6⟩
theorem PM.it (P : PM I J r m N np ns nw D) (g : It I I1 r) : PM I1 J r m N np ns nw D := ⟨⟨P.1.1.it g, P.1.2.it g⟩, P.2.1, P.2.2.1, ⟨by rw [g r (by omega)]; exact P.2.2.2.1.1, P.2.2.2.1.2⟩, P.2.2.2.2⟩
theorem b1_id {α : Type} {o : Option α} : (b1 o fun x => some x) = o := by cases o <;> rfl
theorem wd_18 : ¬ Wd B n p 18 := fun h => by
  have h1 := tK_1 h.1
  have h2 : tE B n p - tS B n p = 0 := h.2.1
  omega
theorem item_go (h : Ld I J r m B n p) : ∀ d i, i + d = 19 → (∀ y, y < i → ¬ Wd B n p y) → ∀ f, d < f → (∃ x, x < 18 ∧ Wd B n p x ∧ l_X7_item_2 f I (tK B n p) (r + 1) (nI i) = some (x, I, tK B n p)) ∨ ((∀ x, x < 18 → ¬ Wd B n p x) ∧ l_X7_item_2 f I (tK B n p) (r + 1) (nI i) = some (18, I, tK B n p)) := by
  intro d
  induction d with
  | zero =>
    intro i hi hy f hf
    obtain ⟨f, rfl⟩ : ∃ g, f = g + 1 := ⟨f - 1, by omega⟩
    refine Or.inr ⟨fun x hx => hy x (by omega), ?_⟩
    show (if 19 ≤ nI i then _ else _) = _
    rw [if_pos (show (19 : Int32) ≤ nI i from by rw [show (19 : Int32) = nI 19 from rfl, ile (by omega) (by omega)]; omega)]
  | succ d ih =>
    intro i hi hy f hf
    obtain ⟨f, rfl⟩ : ∃ g, f = g + 1 := ⟨f - 1, by omega⟩
    have head : l_X7_item_2 (f + 1) I (tK B n p) (r + 1) (nI i) = (b3 (f_X7_isWord I (tK B n p) (r + 1) i) fun v2 I3 k4 => if v2 = 0 then (l_X7_item_2 f I3 k4 (r + 1) (nI (i + 1))) else (b1 (ix (nI i) 19) fun j6 => some (j6, I3, k4))) := by
      show (if 19 ≤ nI i then _ else (b1 (ix (nI i) 19) fun j1 => b3 (f_X7_isWord I (tK B n p) (r + 1) j1) fun v2 I3 k4 => if v2 = 0 then (l_X7_item_2 f I3 k4 (r + 1) (nI i + 1)) else (b1 (ix (nI i) 19) fun j6 => some (j6, I3, k4)))) = _
      rw [if_neg (show ¬ (19 : Int32) ≤ nI i from by rw [show (19 : Int32) = nI 19 from rfl, ile (by omega) (by omega)]; omega), ix_n (show i < 19 by omega) (by decide), b1_so, nI_s1]
    rw [head]
    by_cases hw : Wd B n p i
    · have hi18 : i < 18 := by
        by_cases e : i = 18
        · rw [e] at hw; exact absurd hw wd_18
        · omega
      rw [h.word (by omega) hw, b3_so, if_neg (by decide), ix_n (show i < 19 by omega) (by decide), b1_so]
      exact Or.inl ⟨i, hi18, hw, rfl⟩
    · rw [h.noword (by omega) hw, b3_so, if_pos rfl]
      exact ih (i + 1) (by omega) (fun y hy2 => by
        by_cases e : y = i
        · rw [e]; exact hw
        · exact hy y (by omega)) f (by omega)
theorem set_z {i : Nat} {lo hi : Int32} : ∀ v I' k', (e3 (f_X5_readNumber I k r lo hi) (fun E I28 k29 => some (.error E, I28, k29)) fun v27 I28 k29 => b1 (pu I28 (r + 3) i v27) fun I31 => some (Except.ok (0 : Int32), I31, k29)) = some (.ok v, I', k') → v = 0 := by
  intro v I' k' h
  rcases e3_s h with ⟨a, b, c, -, h2⟩ | ⟨E, b, c, -, h2⟩
  · rw [pu_so, b1_so] at h2
    cases h2
    rfl
  · cases h2
theorem adv_z : ∀ v I' k', (e3 (f_X5_readDaysToSimulate I k r) (fun E I83 k84 => some (.error E, I83, k84)) fun v82 I83 k84 => b2 (f_X3_simulate I83 (r + 3) v82) fun v86 I87 => some (Except.ok (0 : Int32), I87, k84)) = some (.ok v, I', k') → v = 0 := by
  intro v I' k' h
  rcases e3_s h with ⟨a, b, c, -, h2⟩ | ⟨E, b, c, -, h2⟩
  · obtain ⟨x, y, -, h3⟩ := b2_s h2
    cases h3
    rfl
  · cases h2
theorem per_z : ∀ v I' k', (e3 (f_X5_readPerson I k r) (fun E I15 k16 => some (.error E, I15, k16)) fun v14 I15 k16 => b1 (ckA v14 (r + 3 + 4) 6) fun j18 => e3 (f_X5_readHabits I15 k16 r ((r + 3 + 4) + j18)) (fun E I20 k21 => some (.error E, I20, k21)) fun u19 I20 k21 => some (Except.ok (0 : Int32), I20, k21)) = some (.ok v, I', k') → v = 0 := by
  intro v I' k' h
  rcases e3_s h with ⟨a, b, c, -, h2⟩ | ⟨E, b, c, -, h2⟩
  · obtain ⟨x, -, h3⟩ := b1_s h2
    rcases e3_s h3 with ⟨a', b', c', -, h4⟩ | ⟨E, b', c', -, h4⟩
    · cases h4
      rfl
    · cases h4
  · cases h2
theorem item_step {b : Mem → Nat → Option Mem} (h : Af I J r m B n p) (P : PM I J r m N np ns nw D) :
    Out0 I J r m B n p (f_X5_readItem I k r) (f_Y_readsItem b J m) ∨
    (Wd B n p 17 ∧ ∃ I1, Ld I1 J r m B n p ∧ It I I1 r ∧ f_X5_readItem I k r = (e3 (f_X5_openRepeat I1 1 r) (fun E I90 k91 => some (.error E, I90, k91)) fun u89 I90 k91 => some (.ok 1, I90, k91)) ∧ f_Y_readsItem b J m = b J m) := by
  obtain ⟨I1, g1, g2, g3⟩ := h.scan (k := k)
  have P1 := P.it g3
  have hN := P.2.1
  have R1 := P1.1.1
  have k7 := tK_7 (B := B) (n := n) (p := p)
  have n1 : ¬ (1 : Int32) = 0 := by decide
  have hy : ∀ x, x < 25 → Wd B n p x → ∀ y, y < 25 → y ≠ x → f_Y_isWord J m y = some 0 := fun x hx hw y h1 h2 => h.2.2.noword h.1 h1 fun z => h2 (z.un h1 hx hw)
  have hx : ∀ x, x < 25 → Wd B n p x → f_Y_isWord J m x = some 1 := fun x hx hw => h.2.2.word h.1 hx hw
  unfold f_X5_readItem
  rw [g1, b2_so]
  unfold f_X7_item
  rcases item_go g2 19 0 rfl (fun y hy => absurd hy (Nat.not_lt_zero y)) FU (FU_up (by decide)) with ⟨x, x1, x2, x3⟩ | ⟨x2, x3⟩
  · have x3 : l_X7_item_2 FU I1 (tK B n p) (r + 1) 0 = some (x, I1, tK B n p) := x3
    have hk := x2.1
    rw [x3, b3_so, ckI_n (by omega), b1_so, ix_n (show x < 19 by omega) (by decide), b1_so]
    have Y := hy x (by omega) x2
    have X := hx x (by omega) x2
    rcases (show x = 0 ∨ x = 1 ∨ x = 2 ∨ x = 3 ∨ x = 4 ∨ x = 5 ∨ x = 6 ∨ x = 7 ∨ x = 8 ∨ x = 9 ∨ x = 10 ∨ x = 11 ∨ x = 12 ∨ x = 13 ∨ x = 14 ∨ x = 15 ∨ x = 16 ∨ x = 17 by omega) with rfl | rfl | rfl | rfl | rfl | rfl | rfl | rfl | rfl | rfl | rfl | rfl | rfl | rfl | rfl | rfl | rfl | rfl
    · refine Or.inl (Out0.it ?_ g3)
      rw [if_pos rfl]
      unfold f_Y_readsItem
      rw [X, b1_so, if_neg n1]
      rw [b1_id]
      exact (it_Stall k7 g2 hk P1).w
    · refine Or.inl (Out0.it ?_ g3)
      rw [if_neg (by decide), if_pos rfl]
      unfold f_Y_readsItem
      rw [Y 0 (by decide) (by decide), b1_so, if_pos rfl, X, b1_so, if_neg n1]
      rw [b1_id]
      exact (it_Person k7 g2 hk P1).z per_z
    · refine Or.inl (Out0.it ?_ g3)
      rw [if_neg (by decide), if_neg (by decide), if_pos rfl]
      unfold f_Y_readsItem
      rw [Y 0 (by decide) (by decide), b1_so, if_pos rfl, Y 1 (by decide) (by decide), b1_so, if_pos rfl, X, b1_so, if_neg n1]
      rw [b1_id]
      exact (it_Wish k7 g2 hk P1).w
    · refine Or.inl (Out0.it ?_ g3)
      rw [if_neg (by decide), if_neg (by decide), if_neg (by decide), if_pos rfl]
      unfold f_Y_readsItem
      rw [Y 0 (by decide) (by decide), b1_so, if_pos rfl, Y 1 (by decide) (by decide), b1_so, if_pos rfl, Y 2 (by decide) (by decide), b1_so, if_pos rfl, X, b1_so, if_neg n1]
      rw [b1_id]
      exact (it_set (i := 8) (j := 5) (hi := 30) g2 hk P1 (Or.inl ⟨rfl, rfl⟩)).z set_z
    · refine Or.inl (Out0.it ?_ g3)
      rw [if_neg (by decide), if_neg (by decide), if_neg (by decide), if_neg (by decide), if_pos rfl]
      unfold f_Y_readsItem
      rw [Y 0 (by decide) (by decide), b1_so, if_pos rfl, Y 1 (by decide) (by decide), b1_so, if_pos rfl, Y 2 (by decide) (by decide), b1_so, if_pos rfl, Y 3 (by decide) (by decide), b1_so, if_pos rfl, X, b1_so, if_neg n1]
      rw [b1_id]
      exact (it_set (i := 9) (j := 6) (hi := 50) g2 hk P1 (Or.inr (Or.inl ⟨rfl, rfl, rfl⟩))).z set_z
    · refine Or.inl (Out0.it ?_ g3)
      rw [if_neg (by decide), if_neg (by decide), if_neg (by decide), if_neg (by decide), if_neg (by decide), if_pos rfl]
      unfold f_Y_readsItem
      rw [Y 0 (by decide) (by decide), b1_so, if_pos rfl, Y 1 (by decide) (by decide), b1_so, if_pos rfl, Y 2 (by decide) (by decide), b1_so, if_pos rfl, Y 3 (by decide) (by decide), b1_so, if_pos rfl, Y 4 (by decide) (by decide), b1_so, if_pos rfl, Y 14 (by decide) (by decide), b1_so, if_pos rfl, Y 15 (by decide) (by decide), b1_so, if_pos rfl, X, b1_so, if_neg n1]
      rw [b1_id]
      exact (it_Limit g2 hk P1).w
    · refine Or.inl (Out0.it ?_ g3)
      rw [if_neg (by decide), if_neg (by decide), if_neg (by decide), if_neg (by decide), if_neg (by decide), if_neg (by decide), if_pos rfl]
      unfold f_Y_readsItem
      rw [Y 0 (by decide) (by decide), b1_so, if_pos rfl, Y 1 (by decide) (by decide), b1_so, if_pos rfl, Y 2 (by decide) (by decide), b1_so, if_pos rfl, Y 3 (by decide) (by decide), b1_so, if_pos rfl, Y 4 (by decide) (by decide), b1_so, if_pos rfl, Y 14 (by decide) (by decide), b1_so, if_pos rfl, Y 15 (by decide) (by decide), b1_so, if_pos rfl, Y 5 (by decide) (by decide), b1_so, if_pos rfl, Y 13 (by decide) (by decide), b1_so, if_pos rfl, Y 16 (by decide) (by decide), b1_so, if_pos rfl, Y 17 (by decide) (by decide), b1_so, if_pos rfl, b1_id]
      unfold f_Y_readsTrade
      rw [X, b1_so, if_neg n1]
      rw [b1_id]
      exact (it_Buy g2 hk P1).w
    · refine Or.inl (Out0.it ?_ g3)
      rw [if_neg (by decide), if_neg (by decide), if_neg (by decide), if_neg (by decide), if_neg (by decide), if_neg (by decide), if_neg (by decide), if_pos rfl]
      unfold f_Y_readsItem
      rw [Y 0 (by decide) (by decide), b1_so, if_pos rfl, Y 1 (by decide) (by decide), b1_so, if_pos rfl, Y 2 (by decide) (by decide), b1_so, if_pos rfl, Y 3 (by decide) (by decide), b1_so, if_pos rfl, Y 4 (by decide) (by decide), b1_so, if_pos rfl, Y 14 (by decide) (by decide), b1_so, if_pos rfl, Y 15 (by decide) (by decide), b1_so, if_pos rfl, Y 5 (by decide) (by decide), b1_so, if_pos rfl, Y 13 (by decide) (by decide), b1_so, if_pos rfl, Y 16 (by decide) (by decide), b1_so, if_pos rfl, Y 17 (by decide) (by decide), b1_so, if_pos rfl, b1_id]
      unfold f_Y_readsTrade
      rw [Y 6 (by decide) (by decide), b1_so, if_pos rfl, X, b1_so, if_neg n1]
      rw [b1_id]
      exact (it_Sell g2 hk P1).w
    · refine Or.inl (Out0.it ?_ g3)
      rw [if_neg (by decide), if_neg (by decide), if_neg (by decide), if_neg (by decide), if_neg (by decide), if_neg (by decide), if_neg (by decide), if_neg (by decide), if_pos rfl]
      unfold f_Y_readsItem
      rw [Y 0 (by decide) (by decide), b1_so, if_pos rfl, Y 1 (by decide) (by decide), b1_so, if_pos rfl, Y 2 (by decide) (by decide), b1_so, if_pos rfl, Y 3 (by decide) (by decide), b1_so, if_pos rfl, Y 4 (by decide) (by decide), b1_so, if_pos rfl, Y 14 (by decide) (by decide), b1_so, if_pos rfl, Y 15 (by decide) (by decide), b1_so, if_pos rfl, Y 5 (by decide) (by decide), b1_so, if_pos rfl, Y 13 (by decide) (by decide), b1_so, if_pos rfl, Y 16 (by decide) (by decide), b1_so, if_pos rfl, Y 17 (by decide) (by decide), b1_so, if_pos rfl, b1_id]
      unfold f_Y_readsTrade
      rw [Y 6 (by decide) (by decide), b1_so, if_pos rfl, Y 7 (by decide) (by decide), b1_so, if_pos rfl, X, b1_so, if_neg n1]
      rw [b1_id]
      exact (it_Return g2 hk P1).w
    · refine Or.inl (Out0.it ?_ g3)
      rw [if_neg (by decide), if_neg (by decide), if_neg (by decide), if_neg (by decide), if_neg (by decide), if_neg (by decide), if_neg (by decide), if_neg (by decide), if_neg (by decide), if_pos rfl]
      unfold f_Y_readsItem
      rw [Y 0 (by decide) (by decide), b1_so, if_pos rfl, Y 1 (by decide) (by decide), b1_so, if_pos rfl, Y 2 (by decide) (by decide), b1_so, if_pos rfl, Y 3 (by decide) (by decide), b1_so, if_pos rfl, Y 4 (by decide) (by decide), b1_so, if_pos rfl, Y 14 (by decide) (by decide), b1_so, if_pos rfl, Y 15 (by decide) (by decide), b1_so, if_pos rfl, Y 5 (by decide) (by decide), b1_so, if_pos rfl, Y 13 (by decide) (by decide), b1_so, if_pos rfl, Y 16 (by decide) (by decide), b1_so, if_pos rfl, Y 17 (by decide) (by decide), b1_so, if_pos rfl, b1_id]
      unfold f_Y_readsTrade
      rw [Y 6 (by decide) (by decide), b1_so, if_pos rfl, Y 7 (by decide) (by decide), b1_so, if_pos rfl, Y 8 (by decide) (by decide), b1_so, if_pos rfl, X, b1_so, if_neg n1]
      rw [b1_id]
      exact (it_Grant g2 hk P1).w
    · refine Or.inl (Out0.it ?_ g3)
      rw [if_neg (by decide), if_neg (by decide), if_neg (by decide), if_neg (by decide), if_neg (by decide), if_neg (by decide), if_neg (by decide), if_neg (by decide), if_neg (by decide), if_neg (by decide), if_pos rfl]
      unfold f_Y_readsItem
      rw [Y 0 (by decide) (by decide), b1_so, if_pos rfl, Y 1 (by decide) (by decide), b1_so, if_pos rfl, Y 2 (by decide) (by decide), b1_so, if_pos rfl, Y 3 (by decide) (by decide), b1_so, if_pos rfl, Y 4 (by decide) (by decide), b1_so, if_pos rfl, Y 14 (by decide) (by decide), b1_so, if_pos rfl, Y 15 (by decide) (by decide), b1_so, if_pos rfl, Y 5 (by decide) (by decide), b1_so, if_pos rfl, Y 13 (by decide) (by decide), b1_so, if_pos rfl, Y 16 (by decide) (by decide), b1_so, if_pos rfl, Y 17 (by decide) (by decide), b1_so, if_pos rfl, b1_id]
      unfold f_Y_readsTrade
      rw [Y 6 (by decide) (by decide), b1_so, if_pos rfl, Y 7 (by decide) (by decide), b1_so, if_pos rfl, Y 8 (by decide) (by decide), b1_so, if_pos rfl, Y 9 (by decide) (by decide), b1_so, if_pos rfl, X, b1_so, if_neg n1]
      rw [b1_id]
      exact (it_Rename g2 hk P1).w
    · refine Or.inl (Out0.it ?_ g3)
      rw [if_neg (by decide), if_neg (by decide), if_neg (by decide), if_neg (by decide), if_neg (by decide), if_neg (by decide), if_neg (by decide), if_neg (by decide), if_neg (by decide), if_neg (by decide), if_neg (by decide), if_pos rfl]
      unfold f_Y_readsItem
      rw [Y 0 (by decide) (by decide), b1_so, if_pos rfl, Y 1 (by decide) (by decide), b1_so, if_pos rfl, Y 2 (by decide) (by decide), b1_so, if_pos rfl, Y 3 (by decide) (by decide), b1_so, if_pos rfl, Y 4 (by decide) (by decide), b1_so, if_pos rfl, Y 14 (by decide) (by decide), b1_so, if_pos rfl, Y 15 (by decide) (by decide), b1_so, if_pos rfl, Y 5 (by decide) (by decide), b1_so, if_pos rfl, Y 13 (by decide) (by decide), b1_so, if_pos rfl, Y 16 (by decide) (by decide), b1_so, if_pos rfl, Y 17 (by decide) (by decide), b1_so, if_pos rfl, b1_id]
      unfold f_Y_readsTrade
      rw [Y 6 (by decide) (by decide), b1_so, if_pos rfl, Y 7 (by decide) (by decide), b1_so, if_pos rfl, Y 8 (by decide) (by decide), b1_so, if_pos rfl, Y 9 (by decide) (by decide), b1_so, if_pos rfl, Y 10 (by decide) (by decide), b1_so, if_pos rfl, X, b1_so, if_neg n1]
      rw [b1_id]
      exact (it_Swap g2 hk P1).w
    · refine Or.inl (Out0.it ?_ g3)
      rw [if_neg (by decide), if_neg (by decide), if_neg (by decide), if_neg (by decide), if_neg (by decide), if_neg (by decide), if_neg (by decide), if_neg (by decide), if_neg (by decide), if_neg (by decide), if_neg (by decide), if_neg (by decide), if_pos rfl]
      unfold f_Y_readsItem
      rw [Y 0 (by decide) (by decide), b1_so, if_pos rfl, Y 1 (by decide) (by decide), b1_so, if_pos rfl, Y 2 (by decide) (by decide), b1_so, if_pos rfl, Y 3 (by decide) (by decide), b1_so, if_pos rfl, Y 4 (by decide) (by decide), b1_so, if_pos rfl, Y 14 (by decide) (by decide), b1_so, if_pos rfl, Y 15 (by decide) (by decide), b1_so, if_pos rfl, Y 5 (by decide) (by decide), b1_so, if_pos rfl, Y 13 (by decide) (by decide), b1_so, if_pos rfl, Y 16 (by decide) (by decide), b1_so, if_pos rfl, Y 17 (by decide) (by decide), b1_so, if_pos rfl, b1_id]
      unfold f_Y_readsTrade
      rw [Y 6 (by decide) (by decide), b1_so, if_pos rfl, Y 7 (by decide) (by decide), b1_so, if_pos rfl, Y 8 (by decide) (by decide), b1_so, if_pos rfl, Y 9 (by decide) (by decide), b1_so, if_pos rfl, Y 10 (by decide) (by decide), b1_so, if_pos rfl, Y 11 (by decide) (by decide), b1_so, if_pos rfl, X, b1_so, if_neg n1]
      rw [b1_id]
      exact (it_Gift g2 hk P1).w
    · refine Or.inl (Out0.it ?_ g3)
      rw [if_neg (by decide), if_neg (by decide), if_neg (by decide), if_neg (by decide), if_neg (by decide), if_neg (by decide), if_neg (by decide), if_neg (by decide), if_neg (by decide), if_neg (by decide), if_neg (by decide), if_neg (by decide), if_neg (by decide), if_pos rfl]
      unfold f_Y_readsItem
      rw [Y 0 (by decide) (by decide), b1_so, if_pos rfl, Y 1 (by decide) (by decide), b1_so, if_pos rfl, Y 2 (by decide) (by decide), b1_so, if_pos rfl, Y 3 (by decide) (by decide), b1_so, if_pos rfl, Y 4 (by decide) (by decide), b1_so, if_pos rfl, Y 14 (by decide) (by decide), b1_so, if_pos rfl, Y 15 (by decide) (by decide), b1_so, if_pos rfl, Y 5 (by decide) (by decide), b1_so, if_pos rfl, X, b1_so, if_neg n1]
      rw [b1_id]
      exact (it_Sale g2 hk P1).w
    · refine Or.inl (Out0.it ?_ g3)
      rw [if_neg (by decide), if_neg (by decide), if_neg (by decide), if_neg (by decide), if_neg (by decide), if_neg (by decide), if_neg (by decide), if_neg (by decide), if_neg (by decide), if_neg (by decide), if_neg (by decide), if_neg (by decide), if_neg (by decide), if_neg (by decide), if_pos rfl, rdy_eq, R1.h7]
      unfold f_Y_readsItem
      rw [Y 0 (by decide) (by decide), b1_so, if_pos rfl, Y 1 (by decide) (by decide), b1_so, if_pos rfl, Y 2 (by decide) (by decide), b1_so, if_pos rfl, Y 3 (by decide) (by decide), b1_so, if_pos rfl, Y 4 (by decide) (by decide), b1_so, if_pos rfl, X, b1_so, if_neg n1]
      rw [ix0, b1_so, hN, b1_id]
      exact (it_set (i := 10) (j := 8) (hi := N 0 - 1) g2 hk P1 (Or.inr (Or.inr ⟨rfl, rfl⟩))).z set_z
    · refine Or.inl (Out0.it ?_ g3)
      rw [if_neg (by decide), if_neg (by decide), if_neg (by decide), if_neg (by decide), if_neg (by decide), if_neg (by decide), if_neg (by decide), if_neg (by decide), if_neg (by decide), if_neg (by decide), if_neg (by decide), if_neg (by decide), if_neg (by decide), if_neg (by decide), if_neg (by decide), if_pos rfl]
      unfold f_Y_readsItem
      rw [Y 0 (by decide) (by decide), b1_so, if_pos rfl, Y 1 (by decide) (by decide), b1_so, if_pos rfl, Y 2 (by decide) (by decide), b1_so, if_pos rfl, Y 3 (by decide) (by decide), b1_so, if_pos rfl, Y 4 (by decide) (by decide), b1_so, if_pos rfl, Y 14 (by decide) (by decide), b1_so, if_pos rfl, X, b1_so, if_neg n1]
      rw [b1_id]
      exact (it_tax g2 hk P1).w
    · refine Or.inl (Out0.it ?_ g3)
      rw [if_neg (by decide), if_neg (by decide), if_neg (by decide), if_neg (by decide), if_neg (by decide), if_neg (by decide), if_neg (by decide), if_neg (by decide), if_neg (by decide), if_neg (by decide), if_neg (by decide), if_neg (by decide), if_neg (by decide), if_neg (by decide), if_neg (by decide), if_neg (by decide), if_pos rfl]
      unfold f_Y_readsItem
      rw [Y 0 (by decide) (by decide), b1_so, if_pos rfl, Y 1 (by decide) (by decide), b1_so, if_pos rfl, Y 2 (by decide) (by decide), b1_so, if_pos rfl, Y 3 (by decide) (by decide), b1_so, if_pos rfl, Y 4 (by decide) (by decide), b1_so, if_pos rfl, Y 14 (by decide) (by decide), b1_so, if_pos rfl, Y 15 (by decide) (by decide), b1_so, if_pos rfl, Y 5 (by decide) (by decide), b1_so, if_pos rfl, Y 13 (by decide) (by decide), b1_so, if_pos rfl, X, b1_so, if_neg n1]
      rw [b1_id]
      exact (it_Adv g2 hk P1).z adv_z
    · refine Or.inr ⟨x2, I1, g2, g3, ?_, ?_⟩
      · rw [if_neg (by decide), if_neg (by decide), if_neg (by decide), if_neg (by decide), if_neg (by decide), if_neg (by decide), if_neg (by decide), if_neg (by decide), if_neg (by decide), if_neg (by decide), if_neg (by decide), if_neg (by decide), if_neg (by decide), if_neg (by decide), if_neg (by decide), if_neg (by decide), if_neg (by decide), if_pos rfl, hk]
      · unfold f_Y_readsItem
        rw [Y 0 (by decide) (by decide), b1_so, if_pos rfl, Y 1 (by decide) (by decide), b1_so, if_pos rfl, Y 2 (by decide) (by decide), b1_so, if_pos rfl, Y 3 (by decide) (by decide), b1_so, if_pos rfl, Y 4 (by decide) (by decide), b1_so, if_pos rfl, Y 14 (by decide) (by decide), b1_so, if_pos rfl, Y 15 (by decide) (by decide), b1_so, if_pos rfl, Y 5 (by decide) (by decide), b1_so, if_pos rfl, Y 13 (by decide) (by decide), b1_so, if_pos rfl, Y 16 (by decide) (by decide), b1_so, if_pos rfl, X, b1_so, if_neg n1]
        rw [b1_id]
  · have x3 : l_X7_item_2 FU I1 (tK B n p) (r + 1) 0 = some (18, I1, tK B n p) := x3
    have nw' : ∀ y, y < 18 → f_Y_isWord J m y = some 0 := fun y h1 => h.2.2.noword h.1 (by omega) (x2 y h1)
    obtain ⟨I4, J4, w1, w2, w3, w4, w5⟩ := cf_step g2 (c := 1) (by decide)
    refine Or.inl (Out0.it ?_ g3)
    rw [x3, b3_so, ckI_n (by decide), b1_so, ix_n (show 18 < 19 by decide) (by decide), b1_so, if_neg (by decide), if_neg (by decide), if_neg (by decide), if_neg (by decide), if_neg (by decide), if_neg (by decide), if_neg (by decide), if_neg (by decide), if_neg (by decide), if_neg (by decide), if_neg (by decide), if_neg (by decide), if_neg (by decide), if_neg (by decide), if_neg (by decide), if_neg (by decide), if_neg (by decide), if_neg (by decide), show (1 : Int32) = nI 1 from rfl, w1, e2_er]
    unfold f_Y_readsItem
    rw [nw' 0 (by decide), b1_so, if_pos rfl, nw' 1 (by decide), b1_so, if_pos rfl, nw' 2 (by decide), b1_so, if_pos rfl, nw' 3 (by decide), b1_so, if_pos rfl, nw' 4 (by decide), b1_so, if_pos rfl, nw' 14 (by decide), b1_so, if_pos rfl, nw' 15 (by decide), b1_so, if_pos rfl, nw' 5 (by decide), b1_so, if_pos rfl, nw' 13 (by decide), b1_so, if_pos rfl, nw' 16 (by decide), b1_so, if_pos rfl, nw' 17 (by decide), b1_so, if_pos rfl, b1_id]
    unfold f_Y_readsTrade
    rw [nw' 6 (by decide), b1_so, if_pos rfl, nw' 7 (by decide), b1_so, if_pos rfl, nw' 8 (by decide), b1_so, if_pos rfl, nw' 9 (by decide), b1_so, if_pos rfl, nw' 10 (by decide), b1_so, if_pos rfl, nw' 11 (by decide), b1_so, if_pos rfl, nw' 12 (by decide), b1_so, if_pos rfl, show (1 : Int32) = nI 1 from rfl, w3, b1_so]
    exact Or.inr ⟨1, _, I4, J4, _, ⟨rfl, rfl, k7⟩, ⟨w2.2.1, w2.2.2, w4⟩, ⟨fun a ha => w2.1 a (by omega) (by omega), P1.1.2.fr fun a _ _ => w2.1 a (by omega) (by omega)⟩, fun a h1 h2 => w5.1 a h1, fun j hj => w5.2 j (by omega) (by omega)⟩
end DSP

