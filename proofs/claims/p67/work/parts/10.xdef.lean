/-! THE PURE JUDGEMENT: an abstract heap (I: whole numbers by address and place; K: size, shapes, references, longs, doubles), abstract addresses (own cells by their order of making, foreign ones from xB on) -/
/-- foreign addresses begin here -/
def xB : Nat := 1000000
def xE (i : Nat) : Nat := xB + i
theorem xE_ge (i : Nat) : xB ≤ xE i := Nat.le_add_right _ _
abbrev Mem : Type := Nat → Nat → Int32
abbrev Kt : Type := Nat × (Nat → Nat × Nat) × (Nat → Nat → Option Nat) × (Nat → Nat → Int64) × (Nat → Nat → UInt64)
abbrev kN (K : Kt) : Nat := K.1
abbrev kS (K : Kt) : Nat → Nat × Nat := K.2.1
abbrev kG (K : Kt) : Nat → Nat → Option Nat := K.2.2.1
abbrev kJ (K : Kt) : Nat → Nat → Int64 := K.2.2.2.1
abbrev kD (K : Kt) : Nat → Nat → UInt64 := K.2.2.2.2
/-- what follows of the tables' words: a builder's private methods are its superclass's -/
def lw_xs : List Cond := [.selects RJ4 yJ5_ensureCapacityInternal_d00df yJ5_ensureCapacityInternal_d00df, .selects RJ4 yJ5_newCapacity_0f7a4 yJ5_newCapacity_0f7a4, .selects RJ4 yJ5_inflateIfNeededFor_a7421 yJ5_inflateIfNeededFor_a7421, .selects RJ4 yJ5_putStringAt_47b60 yJ5_putStringAt_47b60]
def wsG : List Cond := (lw_tbl ++ lw_xs).filter goodWord
theorem inX {w : Cond} (i : Nat) (h : lw_xs[i]? = some w) (hg : goodWord w = true) : w ∈ wsG := List.mem_filter.mpr ⟨List.mem_append_right _ (List.mem_of_getElem? h), hg⟩
theorem inG {w : Cond} (i : Nat) (h : lw_tbl[i]? = some w) (hg : goodWord w = true) : w ∈ wsG := List.mem_filter.mpr ⟨List.mem_append_left _ (List.mem_of_getElem? h), hg⟩
theorem inT1 {w : Cond} (i : Nat) (h : tables_1_1[i]? = some w) (hg : goodWord w = true) : w ∈ wsG := by
  have h : w ∈ tables_1_1 := List.mem_of_getElem? h
  exact List.mem_filter.mpr ⟨List.mem_append_left _ (List.mem_append_right _ (show w ∈ tables_1 from List.mem_append_left _ h)), hg⟩
theorem inT2 {w : Cond} (i : Nat) (h : tables_1_2[i]? = some w) (hg : goodWord w = true) : w ∈ wsG := by
  have h : w ∈ tables_1_2 := List.mem_of_getElem? h
  exact List.mem_filter.mpr ⟨List.mem_append_left _ (List.mem_append_right _ (show w ∈ tables_1 from List.mem_append_right _ (List.mem_append_left _ h))), hg⟩
theorem inT3 {w : Cond} (i : Nat) (h : tables_1_3[i]? = some w) (hg : goodWord w = true) : w ∈ wsG := by
  have h : w ∈ tables_1_3 := List.mem_of_getElem? h
  exact List.mem_filter.mpr ⟨List.mem_append_left _ (List.mem_append_right _ (show w ∈ tables_1 from List.mem_append_right _ (List.mem_append_right _ (List.mem_append_left _ h)))), hg⟩
theorem inT4 {w : Cond} (i : Nat) (h : tables_1_4[i]? = some w) (hg : goodWord w = true) : w ∈ wsG := by
  have h : w ∈ tables_1_4 := List.mem_of_getElem? h
  exact List.mem_filter.mpr ⟨List.mem_append_left _ (List.mem_append_right _ (show w ∈ tables_1 from List.mem_append_right _ (List.mem_append_right _ (List.mem_append_right _ (List.mem_append_left _ h))))), hg⟩
theorem inT5 {w : Cond} (i : Nat) (h : tables_1_5[i]? = some w) (hg : goodWord w = true) : w ∈ wsG := by
  have h : w ∈ tables_1_5 := List.mem_of_getElem? h
  exact List.mem_filter.mpr ⟨List.mem_append_left _ (List.mem_append_right _ (show w ∈ tables_1 from List.mem_append_right _ (List.mem_append_right _ (List.mem_append_right _ (List.mem_append_right _ (List.mem_append_left _ h)))))), hg⟩
theorem inT6 {w : Cond} (i : Nat) (h : tables_1_6[i]? = some w) (hg : goodWord w = true) : w ∈ wsG := by
  have h : w ∈ tables_1_6 := List.mem_of_getElem? h
  exact List.mem_filter.mpr ⟨List.mem_append_left _ (List.mem_append_right _ (show w ∈ tables_1 from List.mem_append_right _ (List.mem_append_right _ (List.mem_append_right _ (List.mem_append_right _ (List.mem_append_right _ (List.mem_append_left _ h))))))), hg⟩
theorem inT7 {w : Cond} (i : Nat) (h : tables_1_7[i]? = some w) (hg : goodWord w = true) : w ∈ wsG := by
  have h : w ∈ tables_1_7 := List.mem_of_getElem? h
  exact List.mem_filter.mpr ⟨List.mem_append_left _ (List.mem_append_right _ (show w ∈ tables_1 from List.mem_append_right _ (List.mem_append_right _ (List.mem_append_right _ (List.mem_append_right _ (List.mem_append_right _ (List.mem_append_right _ (List.mem_append_left _ h)))))))), hg⟩
theorem inT8 {w : Cond} (i : Nat) (h : tables_1_8[i]? = some w) (hg : goodWord w = true) : w ∈ wsG := by
  have h : w ∈ tables_1_8 := List.mem_of_getElem? h
  exact List.mem_filter.mpr ⟨List.mem_append_left _ (List.mem_append_right _ (show w ∈ tables_1 from List.mem_append_right _ (List.mem_append_right _ (List.mem_append_right _ (List.mem_append_right _ (List.mem_append_right _ (List.mem_append_right _ (List.mem_append_right _ (List.mem_append_left _ h))))))))), hg⟩
theorem inT9 {w : Cond} (i : Nat) (h : tables_1_9[i]? = some w) (hg : goodWord w = true) : w ∈ wsG := by
  have h : w ∈ tables_1_9 := List.mem_of_getElem? h
  exact List.mem_filter.mpr ⟨List.mem_append_left _ (List.mem_append_right _ (show w ∈ tables_1 from List.mem_append_right _ (List.mem_append_right _ (List.mem_append_right _ (List.mem_append_right _ (List.mem_append_right _ (List.mem_append_right _ (List.mem_append_right _ (List.mem_append_right _ (h)))))))))), hg⟩
theorem inP1 {w : Cond} (i : Nat) (h : (k2_sels lw_privs_1)[i]? = some w) (hg : goodWord w = true) : w ∈ wsG := by
  obtain ⟨q, h9, rfl⟩ := List.mem_map.mp (List.mem_of_getElem? h)
  exact List.mem_filter.mpr ⟨List.mem_append_left _ (List.mem_append_left _ (List.mem_map.mpr ⟨q, (show q ∈ lw_privs from List.mem_append_left _ h9), rfl⟩)), hg⟩
theorem inP2 {w : Cond} (i : Nat) (h : (k2_sels lw_privs_2)[i]? = some w) (hg : goodWord w = true) : w ∈ wsG := by
  obtain ⟨q, h9, rfl⟩ := List.mem_map.mp (List.mem_of_getElem? h)
  exact List.mem_filter.mpr ⟨List.mem_append_left _ (List.mem_append_left _ (List.mem_map.mpr ⟨q, (show q ∈ lw_privs from List.mem_append_right _ (List.mem_append_left _ h9)), rfl⟩)), hg⟩
theorem inP3 {w : Cond} (i : Nat) (h : (k2_sels lw_privs_3)[i]? = some w) (hg : goodWord w = true) : w ∈ wsG := by
  obtain ⟨q, h9, rfl⟩ := List.mem_map.mp (List.mem_of_getElem? h)
  exact List.mem_filter.mpr ⟨List.mem_append_left _ (List.mem_append_left _ (List.mem_map.mpr ⟨q, (show q ∈ lw_privs from List.mem_append_right _ (List.mem_append_right _ (h9))), rfl⟩)), hg⟩
theorem wsG_in {Ts ws : List Cond} (hT : ∀ w ∈ wsG, w ∈ Ts) (h : ∀ w ∈ ws, w ∈ wsG) : GoodIn Ts ws := fun w hw => ⟨hT w (h w hw), good_of_word (List.mem_filter.mp (h w hw)).2⟩
def cv (ad : Nat → Nat) : Value → Value
  | .ref k => .ref (ad k)
  | v => v
theorem cv_cat (ad : Nat → Nat) (v : Value) : (cv ad v).category = v.category := by cases v <;> rfl
theorem cv_rf (ad : Nat → Nat) (r : Option Nat) : cv ad (va_rf r) = va_rf (r.map ad) := by cases r <;> rfl
/-- a value that names an address that is there, or a foreign one -/
def vok (n : Nat) : Value → Prop
  | .ref k => k < n ∨ xB ≤ k
  | _ => True
theorem vok_mono {n n' : Nat} (h : n ≤ n') {v : Value} (hv : vok n v) : vok n' v := by
  cases v <;> first | trivial | exact Or.elim hv (fun a => Or.inl (Nat.lt_of_lt_of_le a h)) Or.inr
theorem cv_agree {ad ad' : Nat → Nat} {n : Nat} (h : ∀ k, (k < n ∨ xB ≤ k) → ad' k = ad k) {v : Value} (hv : vok n v) : cv ad' v = cv ad v := by
  cases v with
  | ref k => show Value.ref _ = Value.ref _; rw [h k hv]
  | _ => rfl
theorem cv_agreeL {ad ad' : Nat → Nat} {n : Nat} (h : ∀ k, (k < n ∨ xB ≤ k) → ad' k = ad k) {l : List Value} (hv : ∀ v ∈ l, vok n v) : l.map (cv ad') = l.map (cv ad) :=
  List.map_congr_left fun v hm => cv_agree h (hv v hm)
/-- which fields of a class are references -/
def ft (c : Nat) : List Bool := match c with
  | 0 => [true, false, false, false]
  | 1 => [true, true, true, false, false, false, false, false, false, false, false, false, false, false]
  | 2 => [false, false, false, false, false, false, false, false]
  | 3 => [true, true, false, false, true, true, false, false]
  | 4 => [false, false, false, false]
  | 5 => [true, false, false, false, false, true]
  | 6 => [false, false, false, false, false, false, false, false, false, false, false]
  | 7 => [true, true, true, true, true, true, true, false, false, false]
  | 8 => [false, false, false, false, false, false, false, true, true, true]
  | 9 => [false, false, false, false, false, false, false]
  | 10 => [false, false, false, false, false, false, false, false, false, false]
  | 11 => [false, true, false]
  | 12 => [true, false, false, false]
  | _ => []
abbrev cls : List vw_C := [(RJ4, TJ4, 4), (RX3, TX3, 14), (RX4, TX4, 8), (RX5, TX5, 8), (RX6, TX6, 4), (RX7, TX7, 6), (RX8, TX8, 11), (RX9, TX9, 10), (RX10, TX10, 10), (RX11, TX11, 7), (RX12, TX12, 10), (RJx4a65c, TJx4a65c, 3), (RJ0, TJ0, 4)]
abbrev tys (cA : Nat → ClassId) : List (ClassId × FieldType) := [(cA 100, .int), (cA 101, .byte), (cA 102, .boolean), (cA 103, .long), (cA 109, .object "java/lang/Object"), (cA 105, .object RX3), (cA 106, .object RX4), (cA 107, .object RX6), (cA 108, .object RX8)]
def oc (ad : Nat → Nat) (I : Nat → Int32) (G : Nat → Option Nat) : Nat → List Bool → List Value
  | _, [] => []
  | k, true :: r => va_rf ((G k).map ad) :: oc ad I G (k + 1) r
  | k, false :: r => .int (I k) :: oc ad I G (k + 1) r
theorem oc_len (ad : Nat → Nat) (I : Nat → Int32) (G : Nat → Option Nat) : ∀ (l : List Bool) (k : Nat), (oc ad I G k l).length = l.length := by
  intro l
  induction l with
  | nil => intro k; rfl
  | cons b r ih => intro k; cases b <;> simp [oc, ih]
theorem oc_get (ad : Nat → Nat) (I : Nat → Int32) (G : Nat → Option Nat) : ∀ (l : List Bool) (k j : Nat) (b : Bool), l[j]? = some b → (oc ad I G k l)[j]? = some (if b then va_rf ((G (k + j)).map ad) else .int (I (k + j))) := by
  intro l
  induction l with
  | nil => intro k j b h; simp at h
  | cons c r ih =>
    intro k j b h
    cases j with
    | zero => simp at h; subst h; cases c <;> rfl
    | succ j =>
      have h1 := ih (k + 1) j b (by simpa using h)
      rw [show k + 1 + j = k + (j + 1) by omega] at h1
      cases c <;> simpa [oc] using h1
theorem oc_congr {ad ad' : Nat → Nat} {I I' : Nat → Int32} {G G' : Nat → Option Nat} : ∀ (l : List Bool) (k : Nat), (∀ j, k ≤ j → l[j - k]? = some false → I' j = I j) → (∀ j, k ≤ j → l[j - k]? = some true → (G' j).map ad' = (G j).map ad) → oc ad' I' G' k l = oc ad I G k l := by
  intro l
  induction l with
  | nil => intro k _ _; rfl
  | cons c r ih =>
    intro k hI hG
    have e := ih (k + 1) (fun j hj h => hI j (by omega) (by rw [show j - k = (j - (k + 1)) + 1 by omega]; simpa using h)) (fun j hj h => hG j (by omega) (by rw [show j - k = (j - (k + 1)) + 1 by omega]; simpa using h))
    cases c
    · show Value.int _ :: _ = Value.int _ :: _
      rw [e, hI k (Nat.le_refl k) (by simp)]
    · show va_rf _ :: _ = va_rf _ :: _
      rw [e, hG k (Nat.le_refl k) (by simp)]
theorem oc_set (ad : Nat → Nat) (I : Nat → Int32) (G : Nat → Option Nat) : ∀ (l : List Bool) (k j : Nat) (v : Int32), l[j]? = some false → (oc ad I G k l).set j (.int v) = oc ad (upd I (k + j) v) G k l := by
  intro l
  induction l with
  | nil => intro k j v h; simp at h
  | cons c r ih =>
    intro k j v h
    cases j with
    | zero =>
      simp at h; subst h
      show Value.int v :: oc ad I G (k + 1) r = Value.int (upd I k v k) :: oc ad (upd I k v) G (k + 1) r
      rw [pk_us, oc_congr (ad' := ad) (I' := upd I k v) (I := I) (G' := G) (G := G) r (k + 1) (fun j hj _ => pk_un (by omega)) (fun j _ _ => rfl)]
    | succ j =>
      have h1 := ih (k + 1) j v (by simpa using h)
      rw [show k + 1 + j = k + (j + 1) by omega] at h1
      cases c
      · show Value.int _ :: _ = Value.int _ :: _
        rw [h1, pk_un (by omega)]
      · show va_rf _ :: _ = va_rf _ :: _
        rw [h1]
theorem oc_setR (ad : Nat → Nat) (I : Nat → Int32) (G : Nat → Option Nat) : ∀ (l : List Bool) (k j : Nat) (r : Option Nat), l[j]? = some true → (oc ad I G k l).set j (va_rf (r.map ad)) = oc ad I (va_up G (k + j) r) k l := by
  intro l
  induction l with
  | nil => intro k j v h; simp at h
  | cons c t ih =>
    intro k j r h
    cases j with
    | zero =>
      simp at h; subst h
      show va_rf (r.map ad) :: oc ad I G (k + 1) t = va_rf ((va_up G k r k).map ad) :: oc ad I (va_up G k r) (k + 1) t
      rw [show va_up G k r k = r from if_pos rfl, oc_congr (ad' := ad) (I' := I) (I := I) (G' := va_up G k r) (G := G) t (k + 1) (fun j hj _ => rfl) (fun j hj _ => by rw [show va_up G k r j = G j from if_neg (by omega)])]
    | succ j =>
      have h1 := ih (k + 1) j r (by simpa using h)
      rw [show k + 1 + j = k + (j + 1) by omega] at h1
      cases c
      · show Value.int _ :: _ = Value.int _ :: _
        rw [h1]
      · show va_rf _ :: _ = va_rf _ :: _
        rw [h1, show va_up G (k + (j + 1)) r k = G k from if_neg (by omega)]
/-- a cell as the kit has it -/
def ce (cA : Nat → ClassId) (ad : Nat → Nat) (I : Mem) (K : Kt) (a : Nat) : va_E :=
  if (kS K a).1 < 100 then .inr ((kS K a).1, oc ad (I a) (kG K a) 0 (ft (kS K a).1))
  else .inl (cA (kS K a).1, (kS K a).2, if (kS K a).1 = 103 then .inr (.inl (kJ K a)) else if (kS K a).1 = 104 then .inr (.inr (.inr (.inl (kD K a)))) else if 104 < (kS K a).1 then .inr (.inr (.inr (.inr (fun j => (kG K a j).map ad)))) else .inl (I a))
/-- the world -/
def wl (cA : Nat → ClassId) (ad : Nat → Nat) (I : Mem) (K : Kt) : va_W := (List.range (kN K)).map (fun a => (ad a, ce cA ad I K a))
theorem wl_get {cA : Nat → ClassId} {ad : Nat → Nat} {I : Mem} {K : Kt} {a : Nat} (h : a < kN K) : (wl cA ad I K)[a]? = some (ad a, ce cA ad I K a) := by
  rw [wl, List.getElem?_map, List.getElem?_range h]; rfl
theorem wl_len (cA : Nat → ClassId) (ad : Nat → Nat) (I : Mem) (K : Kt) : (wl cA ad I K).length = kN K := by simp [wl]
theorem wl_set {cA : Nat → ClassId} {ad : Nat → Nat} {I I' : Mem} {K K' : Kt} {a : Nat} {e : va_E} (hn : kN K' = kN K) (he : e = ce cA ad I' K' a) (ho : ∀ b, b ≠ a → ce cA ad I' K' b = ce cA ad I K b) : (wl cA ad I K).set a (ad a, e) = wl cA ad I' K' := by
  apply List.ext_getElem?
  intro j
  rw [List.getElem?_set]
  by_cases h : a = j
  · subst h
    by_cases hl : a < kN K
    · rw [if_pos rfl, wl_len, if_pos hl, wl_get (by omega : a < kN K'), he]
    · rw [if_pos rfl, wl_len, if_neg hl, List.getElem?_eq_none (by rw [wl_len]; omega)]
  · rw [if_neg h]
    by_cases hl : j < kN K
    · rw [wl_get hl, wl_get (by omega : j < kN K'), ho j (Ne.symm h)]
    · rw [List.getElem?_eq_none (by rw [wl_len]; omega), List.getElem?_eq_none (by rw [wl_len]; omega)]
theorem wl_push {cA : Nat → ClassId} {ad ad' : Nat → Nat} {I I' : Mem} {K K' : Kt} {q : Nat} {e : va_E} (hn : kN K' = kN K + 1) (hq : ad' (kN K) = q) (ha : ∀ b, b < kN K → ad' b = ad b) (he : e = ce cA ad' I' K' (kN K)) (ho : ∀ b, b < kN K → ce cA ad' I' K' b = ce cA ad I K b) : wl cA ad I K ++ [(q, e)] = wl cA ad' I' K' := by
  rw [wl, wl, hn, List.range_succ, List.map_append]
  congr 1
  · exact List.map_congr_left fun b hb => by rw [ha b (List.mem_range.mp hb), ho b (List.mem_range.mp hb)]
  · show [(q, e)] = [(ad' (kN K), ce cA ad' I' K' (kN K))]
    rw [hq, he]
/-- the references of the heap are old or foreign -/
def Cl (K : Kt) : Prop := ∀ a k r, kG K a k = some r → r < kN K ∨ xB ≤ r
/-- the locals -/
def Rl (ad : Nat → Nat) (ls : Array Slot) (nL : Nat) (L : List Value) : Prop := L.length = nL ∧ ∃ lv : List (Nat × Value), lv_has ls nL lv ∧ ∀ (i : Nat) (v : Value), L[i]? = some v → (∀ q, v ≠ .retAddr q) → (i, cv ad v) ∈ lv
theorem Rl.at {ad : Nat → Nat} {ls : Array Slot} {nL : Nat} {L : List Value} (h : Rl ad ls nL L) {i : Nat} {v : Value} (hi : L[i]? = some v) (hv : ∀ q, v ≠ .retAddr q) : ls[i]? = some (.val (cv ad v)) := by
  obtain ⟨-, lv, h1, h2⟩ := h
  exact h1.2.2 _ (h2 i v hi hv)
theorem Rl.ad {ad ad' : Nat → Nat} {ls : Array Slot} {nL n : Nat} {L : List Value} (h : Rl ad ls nL L) (ha : ∀ k, (k < n ∨ xB ≤ k) → ad' k = ad k) (hv : ∀ v ∈ L, vok n v) : Rl ad' ls nL L := by
  obtain ⟨h0, lv, h1, h2⟩ := h
  exact ⟨h0, lv, h1, fun i v hi hq => by rw [cv_agree ha (hv v (List.mem_of_getElem? hi))]; exact h2 i v hi hq⟩
def c2 (L : List Value) (i : Nat) : Bool := match i with
  | 0 => true
  | j + 1 => match L[j]? with
    | some w => w.category != 2
    | none => true
theorem Rl.set1 {ad : Nat → Nat} {ls : Array Slot} {nL : Nat} {L : List Value} (h : Rl ad ls nL L) {i : Nat} {v : Value} (hi : i < L.length) (hc : v.category = 1) (h2 : c2 L i = true) : ∃ ls', storeLocals ls i (cv ad v) = some ls' ∧ Rl ad ls' nL (L.set i v) := by
  obtain ⟨h0, lv, h1, h3⟩ := h
  obtain ⟨ls', e, h4⟩ := lv_store1 (v := cv ad v) h1 (i := i) (by omega) (by rw [cv_cat]; exact hc)
  refine ⟨ls', e, by rw [List.length_set]; exact h0, _, h4, fun j w hj hw => ?_⟩
  rw [List.getElem?_set] at hj
  by_cases hij : i = j
  · subst hij
    rw [if_pos rfl, if_pos hi] at hj
    cases hj
    exact List.mem_cons_self
  · rw [if_neg hij] at hj
    refine List.mem_cons_of_mem _ (List.mem_filter.mpr ⟨h3 j w hj hw, ?_⟩)
    have hji : (j == i) = false := by simpa using fun z => hij z.symm
    show (!(j == i) && !(j + 1 == i && (cv ad w).category == 2)) = true
    rw [hji, cv_cat]
    by_cases h5 : j + 1 = i
    · subst h5
      unfold c2 at h2
      simp only [hj] at h2
      simpa using h2
    · simp [h5]
theorem Rl.entry {ad : Nat → Nat} {As : List Value} {n : Nat} (h1 : ∀ v ∈ As, v.category = 1) (h : As.length ≤ n) : ∃ ls : Array Slot, (∀ m : MethodId, entryFrame m (As.map (cv ad)).toArray n = F0 m 0 ls []) ∧ Rl ad ls n (As ++ List.replicate (n - As.length) (.retAddr 0)) := by
  have e : lg_sl (As.map (cv ad)) = (As.map (cv ad)).map Slot.val := by
    clear h
    induction As with
    | nil => rfl
    | cons a r ih =>
      have ha : ¬ (cv ad a).category = 2 := by rw [cv_cat, h1 a List.mem_cons_self]; decide
      have := ih (fun v hv => h1 v (List.mem_cons_of_mem _ hv))
      simp only [lg_sl, List.map_cons, List.flatMap_cons, if_neg ha] at this ⊢
      rw [this]; rfl
  have hn : (lg_sl (As.map (cv ad))).length = As.length := by rw [e]; simp
  have h2 := lv_entry (As.map (cv ad)) (n := n) (by omega)
  refine ⟨_, fun m => lg_entry_eq m _ n, by simp; omega, _, h2, fun i v hi hv => ?_⟩
  have key : ∀ (l : List Value) (k : Nat), (∀ v ∈ l, v.category = 1) → ∀ i v, l[i]? = some v → (k + i, cv ad v) ∈ lv_args k (l.map (cv ad)) := by
    intro l
    induction l with
    | nil => intro k _ i v h; simp at h
    | cons a r ih =>
      intro k hc i v h
      have ha : (cv ad a).category = 1 := by rw [cv_cat]; exact hc a List.mem_cons_self
      simp only [List.map_cons, lv_args, ha]
      cases i with
      | zero => simp at h; subst h; simp
      | succ i =>
        have := ih (k + 1) (fun v hv => hc v (List.mem_cons_of_mem _ hv)) i v (by simpa using h)
        rw [show k + 1 + i = k + (i + 1) by omega] at this
        exact List.mem_cons_of_mem _ this
  by_cases hi2 : i < As.length
  · rw [List.getElem?_append_left hi2] at hi
    have := key As 0 h1 i v hi
    rwa [Nat.zero_add] at this
  · rw [List.getElem?_append_right (by omega), List.getElem?_replicate] at hi
    split at hi
    · cases hi; exact absurd rfl (hv 0)
    · cases hi
