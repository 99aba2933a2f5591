/-! the law, from the new object to its end -/
section LVX
variable {K K' : Kt} {I I' : Mem} {w ns k : Nat} {N : Nat → Int32}
theorem gz_kk {t k : Nat} : gz (kk K t k) = gz K := rfl
theorem Gw.nw {sh : Nat × Nat} : Gw K (kNew K sh) := ⟨Nat.le_succ _, fun a ha => kn_s (by omega), fun a j ha _ => by rw [kn_g (by omega)]⟩
theorem PI.fr (P : PI I w N ns) (h : ∀ a, (a = w ∨ (w + 37 ≤ a ∧ a ≤ w + 67)) → I' a = I a) : PI I' w N ns := by
  obtain ⟨⟨h7, R⟩, Bm, u, v, h0, h8, h9⟩ := P
  have e := h w (Or.inl rfl)
  exact ⟨⟨by rw [e]; exact h7, R.fr fun a h1 h2 => h a (Or.inr ⟨h1, by omega⟩)⟩, Bm.fr fun a h1 h2 => h a (Or.inr ⟨h1, by omega⟩), u, v, h0, by rw [e]; exact h8, by rw [e]; exact h9⟩
theorem lawV : LawV := by
  intro n xs K hn W LB hk
  have gk : ∀ {c : Nat}, kG K 2 5 = some (xE 0) := fun {_} => LB.1
  let K4 : Kt := kNew K (100, 7)
  let I3 : Mem := u1 I0L (kN K) (fun _ => 0)
  have n4 : kN K4 = 415 := by show kN K + 1 = 415; omega
  obtain ⟨ns, y, I9, K10, m1, hns, H, V, k10, ⟨⟨f1, f2⟩, f3⟩⟩ := market_row (I := I3) (xs := xs) hn n4
  obtain ⟨v, hv⟩ := cell_some (n := n) (xs := xs) (I := I9) (K := K10) (k := 9) (by decide) hn
  obtain ⟨s, I15, K16, t1, S, ⟨t2, t3, t4, t5⟩, t6⟩ := text_whole (v := v) advOk H V k10 hns.1 hns.2
  have eI : ∀ c, c < 414 → I15 c = I0L c := fun c hc => ((t6 c (by omega)).1.trans (f3 c (by omega)).1).trans (u1_n (by omega))
  have eS : ∀ c, c < 414 → kS K16 c = kS K c := fun c hc => ((t6 c (by omega)).2.1.trans (f3 c (by omega)).2.1).trans (kn_s (by omega))
  have eG : ∀ c, c < 414 → kG K16 c = kG K c := fun c hc => ((t6 c (by omega)).2.2.trans (f3 c (by omega)).2.2).trans (kn_g (by omega))
  have g16 : Gw K K16 := ⟨by omega, fun a ha => eS a (by omega), fun a j ha _ => by rw [eG a (by omega)]⟩
  have W16 : LW K16 0 := W.gw g16
  have l16 : LA K16 100 7 414 := by
    have l4 : LA K4 100 7 (kN K) := LA.mk
    rw [hk] at l4
    exact ⟨((t6 414 (by decide)).2.1.trans (f3 414 (by decide)).2.1).trans l4.1, by omega⟩
  have z16 : I15 414 = fun _ => 0 := by
    rw [(t6 414 (by decide)).1, (f3 414 (by decide)).1]
    show u1 I0L (kN K) (fun _ => 0) 414 = _
    rw [hk]
    exact u1_s
  obtain ⟨hs, hq⟩ := str_apart W16 l16 S t2
  obtain ⟨I19, b, o1', OFs, ⟨hb, OBs⟩, -⟩ := told W16 l16 (by omega) t2 hs hq S z16 (by rw [eI 2 (by decide)]; rfl)
  have gT : kG K16 (0 + 1 + 1) 5 = some (xE 0) := by
    rw [eG _ (by decide)]
    exact LB.1
  have eJ : ∀ c, c < 414 → c ≠ 2 → c ≠ 3 → I19 c = I0L c := fun c h1 h2 h3 => (OFs.1 c h2 h3 (by omega)).trans (eI c h1)
  have z0 : ∀ c j, c ≠ 1 → I0L c j = 0 := fun c j h => by
    show u2 (fun _ _ => 0) (0 + 1) 3 (-1) c j = 0
    rw [u2_a (by omega)]
  obtain ⟨-, q, -, -, hc⟩ := S
  obtain ⟨N, I26, k9, p1, p2, P, NVs⟩ := parse_row (I := I19) (w := 0) (k := 0) (v := v) hns V rfl t2
    ⟨fun i hi => by rw [eJ _ (by omega) (by omega) (by omega), z0 _ _ (by omega), z0 _ _ (by omega)]; exact ⟨cB0, cB0⟩, fun i hi => by rw [eJ _ (by omega) (by omega) (by omega), z0 _ _ (by omega), z0 _ _ (by omega)]; exact ⟨cB0, cB0⟩⟩
    ⟨0, by decide, by rw [eJ 0 (by decide) (by decide) (by decide), z0 _ _ (by decide)]; rfl⟩ OBs.1 (by rw [List.length_append, List.length_replicate]; omega)
    (fun i c hi => ⟨OBs.2 i c (by rw [List.getElem?_append_left (List.getElem?_eq_some_iff.mp hi).1]; exact hi), (hc i c hi).1⟩)
  let K29 : Kt := kk K16 (0 + 1 + 1) k9
  have n29 : kN K29 = kN K16 := rfl
  have W29 : LW K29 0 := W16.kk
  let K36 : Kt := kNew K29 (103, 60)
  let K43 : Kt := kNew K36 (103, 60)
  let I35 : Mem := u1 I26 (kN K29) (fun _ => 0)
  let I42 : Mem := u1 I35 (kN K36) (fun _ => 0)
  have n36 : kN K36 = kN K16 + 1 := rfl
  have P42 : PI I42 0 N ns := P.fr fun a ha => by
    show u1 (u1 I26 (kN K29) (fun _ => 0)) (kN K36) (fun _ => 0) a = I26 a
    rw [u1_n (by omega), u1_n (by omega)]
  have R43 : RC K43 0 (kN K29) (kN K36) := ⟨W29.gw (Gw.nw.trans Gw.nw), (show LA K36 103 60 (kN K29) from LA.mk).nw, LA.mk⟩
  have hX : (1000000 : Nat) = xB := rfl
  obtain ⟨I9', K9', r1, r2, r3⟩ := rounds2 (w := 0) (xs := xs) (x6 := kN K29) (x7 := kN K36) hn ⟨by omega, by omega, by omega⟩ 20 0 rfl FU (FU_up (by decide)) I42 K43 N P42 NVs R43 rfl
  have e9 : gz K9' = gz K16 + 60 + 60 := by
    rw [r3]
    show gz (kNew (kNew K29 (103, 60)) (103, 60)) = _
    rw [gz_new, gz_new]
    rfl
  have e4 : gz K4 = gz K + 7 := gz_new
  have e5 : kN K9' = kN K16 + 1 + 1 := r2
  refine ⟨I9', K9', ?_, by omega, by omega⟩
  unfold f_L_law
  rw [show ixn 7 = some 7 from ixn_n (n := 7) (by decide), b1_so, cL_n (by omega), b1_so, puN_e, b2_so, m1, b3_so, show f_L_cell n xs I9 K10 9 = some v from hv, b1_so, t1, b3_so, hk, o1', b2_so, cW_n W16, b1_so, cT_n (k := 0) (by decide) gT, b1_so, p1, o3_ok]
  show (if (4 : Int32) = 4 then (b1 (f_L_all I26 K29 0) fun v31 => b1 (ixn 60) fun m33 => b1 (cL K29) fun _ => b2 (puN I26 K29 (103, m33)) fun I35 K36 => b1 (ixn 60) fun m40 => b1 (cL K36) fun _ => b2 (puN I35 K36 (103, m40)) fun I42 K43 => l_L_law_68 n xs FU I42 K43 0 v31 (kN K29) (kN K36) 0) else some (0, I26, K29)) = _
  rw [if_pos rfl, all_row P.1 W29, b1_so, show ixn 60 = some 60 from ixn_n (n := 60) (by decide), b1_so, cL_n (by omega), b1_so, puN_e, b2_so, b1_so, cL_n (show kN K36 < 900000 by omega), b1_so, puN_e, b2_so]
  exact r1
end LVX
