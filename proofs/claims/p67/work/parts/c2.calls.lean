/-! the class's calls, over the numbers -/
theorem okn {p n : Nat} (h : p < n) (hn : n < 1000) : ¬ nI p < 0 ∧ nI p < nI n :=
  ⟨by rw [show (0 : Int32) = nI 0 from rfl, nJ_lf (Nat.zero_le _) (by omega)]; exact id, nI_lt h (by omega)⟩
theorem o1_ok {α δ : Type} {a : α} {f : α → Option δ} : o1 (some (.ok a)) f = f a := rfl
theorem o2_ok {α β δ : Type} {a : α} {b : β} {f : α → β → Option δ} : o2 (some (.ok a, b)) f = f a b := rfl
theorem o3_ok {α β γ δ : Type} {a : α} {b : β} {c : γ} {f : α → β → γ → Option δ} : o3 (some (.ok a, b, c)) f = f a b c := rfl
/-- the class at w shows N: two persons, four wishes -/
def PJ (I : Mem) (w : Nat) (N : Nat → Int32) (ns : Nat) : Prop := I w 7 = 1 ∧ RM I (w + 37) N 2 ns 4
section CLX
variable {I I' : Mem} {w ns : Nat} {N N' : Nat → Int32}
theorem PJ.l (P : PJ I w N ns) : f_X9_loadedMarket I w = some (.ok (w + 37)) := by
  unfold f_X9_loadedMarket
  rw [P.1, if_neg (by decide)]
theorem PJ.cp (P : PJ I w N ns) {p : Nat} (hp : p < 2) : f_X9_checkPerson I w (nI p) = some (.ok ()) := by
  rw [h_checkPerson (L := True) (n := 2) (P.1.trans bI_tr.symm) (fun _ => P.2.h3), if_pos trivial, if_pos (okn hp (by decide))]
theorem PJ.cs (P : PJ I w N ns) {p : Nat} (hp : p < ns) : f_X9_checkStall I w (nI p) = some (.ok ()) := by
  have b2 := P.2.f.s.2
  rw [h_checkStall (L := True) (n := ns) (P.1.trans bI_tr.symm) (fun _ => P.2.h4), if_pos trivial, if_pos (okn hp (by omega))]
theorem PJ.cw (P : PJ I w N ns) {p : Nat} (hp : p < 4) : f_X9_checkWish I w (nI p) = some (.ok ()) := by
  rw [h_checkWish (L := True) (n := 4) (P.1.trans bI_tr.symm) (fun _ => P.2.h5), if_pos trivial, if_pos (okn hp (by decide))]
theorem PJ.pa (P : PJ I w N ns) {p : Nat} (hp : p < 2) : f_X9_personAt I w (nI p) = some (.ok (w + 37 + 4 + p)) := by
  unfold f_X9_personAt
  rw [P.cp hp, e1_ok, ixn6 (by omega), b1_so]
theorem PJ.sa (P : PJ I w N ns) {p : Nat} (hp : p < ns) : f_X9_stallAt I w (nI p) = some (.ok (w + 37 + 10 + p)) := by
  have b2 := P.2.f.s.2
  unfold f_X9_stallAt
  rw [P.cs hp, e1_ok, ixn5 (by omega), b1_so]
theorem PJ.wa (P : PJ I w N ns) {p : Nat} (hp : p < 4) : f_X9_wishAt I w (nI p) = some (.ok (w + 37 + 15 + p)) := by
  unfold f_X9_wishAt
  rw [P.cw hp, e1_ok, ixn16 (by omega), b1_so]
theorem PJ.coins (P : PJ I w N ns) {p : Nat} (hp : p < 2) : f_X9_coins I w (nI p) = some (.ok (pN N p 0)) := by
  unfold f_X9_coins
  rw [P.pa hp, e1_ok, ckA_n (by omega), b1_so, P.2.p1 hp]
theorem PJ.birthday (P : PJ I w N ns) {p : Nat} (hp : p < 2) : f_X9_birthday I w (nI p) = some (.ok (pN N p 1)) := by
  unfold f_X9_birthday
  rw [P.pa hp, e1_ok, ckA_n (by omega), b1_so, P.2.p2 hp]
theorem PJ.candles (P : PJ I w N ns) {p : Nat} (hp : p < 2) : f_X9_candles I w (nI p) = some (.ok (pN N p 2)) := by
  unfold f_X9_candles
  rw [P.pa hp, e1_ok, ckA_n (by omega), b1_so, P.2.p3 hp]
theorem PJ.happiness (P : PJ I w N ns) {p : Nat} (hp : p < 2) : f_X9_happiness I w (nI p) = some (.ok (pN N p 3)) := by
  unfold f_X9_happiness
  rw [P.pa hp, e1_ok, ckA_n (by omega), b1_so, P.2.p4 hp]
theorem PJ.shoppingLimit (P : PJ I w N ns) {p : Nat} (hp : p < 2) : f_X9_shoppingLimit I w (nI p) = some (.ok (pN N p 4)) := by
  unfold f_X9_shoppingLimit
  rw [P.pa hp, e1_ok, ckA_n (by omega), b1_so, P.2.p5 hp]
theorem PJ.cash (P : PJ I w N ns) {p : Nat} (hp : p < ns) : f_X9_cash I w (nI p) = some (.ok (sN N p 1)) := by
  have b2 := P.2.f.s.2
  unfold f_X9_cash
  rw [P.sa hp, e1_ok, ckA_n (by omega), b1_so, P.2.s1 hp]
theorem PJ.stars (P : PJ I w N ns) {p : Nat} (hp : p < ns) : f_X9_stars I w (nI p) = some (.ok (sN N p 2)) := by
  have b2 := P.2.f.s.2
  unfold f_X9_stars
  rw [P.sa hp, e1_ok, ckA_n (by omega), b1_so, P.2.s2 hp]
theorem PJ.margin (P : PJ I w N ns) {p : Nat} (hp : p < ns) : f_X9_margin I w (nI p) = some (.ok (sN N p 3)) := by
  have b2 := P.2.f.s.2
  unfold f_X9_margin
  rw [P.sa hp, e1_ok, ckA_n (by omega), b1_so, P.2.s3 hp]
theorem PJ.wear (P : PJ I w N ns) {p : Nat} (hp : p < 4) : f_X9_wear I w (nI p) = some (.ok (wN N p 2)) := by
  unfold f_X9_wear
  rw [P.wa hp, e1_ok, ckA_n (by omega), b1_so, P.2.w3 hp]
theorem PJ.owner (P : PJ I w N ns) {p : Nat} (hp : p < 4) : f_X9_owner I w (nI p) = some (.ok (if wN N p 3 = 1 then wN N p 4 else -1)) := by
  unfold f_X9_owner
  rw [P.wa hp, e1_ok, ckA_n (by omega), b1_so, P.2.w5 hp]
theorem PJ.stallOf (P : PJ I w N ns) {p : Nat} (hp : p < 4) : f_X9_stallOf I w (nI p) = some (.ok (if wN N p 3 = 0 then wN N p 4 else -1)) := by
  unfold f_X9_stallOf
  rw [P.wa hp, e1_ok, ckA_n (by omega), b1_so, P.2.w4 hp]
theorem PJ.purchaseDay (P : PJ I w N ns) {p : Nat} (hp : p < 4) : f_X9_purchaseDay I w (nI p) = some (.ok (wN N p 5)) := by
  unfold f_X9_purchaseDay
  rw [P.wa hp, e1_ok, ckA_n (by omega), b1_so, P.2.w8 hp]
theorem PJ.purchasePrice (P : PJ I w N ns) {p : Nat} (hp : p < 4) : f_X9_purchasePrice I w (nI p) = some (.ok (wN N p 6)) := by
  unfold f_X9_purchasePrice
  rw [P.wa hp, e1_ok, ckA_n (by omega), b1_so, P.2.w9 hp]
theorem PJ.isGranted (P : PJ I w N ns) {p : Nat} (hp : p < 4) : f_X9_isGranted I w (nI p) = some (.ok (bI (wN N p 3 = 2))) := by
  unfold f_X9_isGranted
  rw [P.wa hp, e1_ok, ckA_n (by omega), b1_so, P.2.w6 hp, cB_bI, b1_so]
theorem PJ.value (P : PJ I w N ns) {p : Nat} (hp : p < 4) : f_X9_value I w (nI p) = some (.ok (sVal N p)) := by
  unfold f_X9_value
  rw [P.wa hp, e1_ok, ckA_n (by omega), b1_so, h_worth P.2 hp, b1_so]
theorem PJ.day (P : PJ I w N ns) : f_X9_day I w = some (.ok (N 1)) := by
  unfold f_X9_day
  rw [P.l, e1_ok, ckE_n, b1_so, P.2.h6]
theorem PJ.dayOfYear (P : PJ I w N ns) : f_X9_dayOfYear I w = some (.ok (sDay N)) := by
  unfold f_X9_dayOfYear
  rw [P.l, e1_ok, ckE_n, b1_so, h_today P.2, b1_so]
theorem PJ.grantedCount (P : PJ I w N ns) : f_X9_grantedCount I w = some (.ok (nI (sGrN N 4))) := by
  unfold f_X9_grantedCount
  rw [P.l, e1_ok, ckE_n, b1_so, h_countGranted P.2, b1_so]
  rfl
theorem PJ.fadedCount (P : PJ I w N ns) : f_X9_fadedCount I w = some (.ok (nI (sCnt (fun w => wN N w 3 = 3) 4))) := by
  unfold f_X9_fadedCount
  rw [P.l, e1_ok, ckE_n, b1_so, h_countFaded P.2, b1_so]
theorem PJ.personCount (P : PJ I w N ns) : f_X9_personCount I w = some (.ok (nI 2)) := by
  unfold f_X9_personCount
  rw [P.l, e1_ok, ckE_n, b1_so, P.2.h3]
theorem PJ.stallCount (P : PJ I w N ns) : f_X9_stallCount I w = some (.ok (nI ns)) := by
  unfold f_X9_stallCount
  rw [P.l, e1_ok, ckE_n, b1_so, P.2.h4]
theorem kT_ss {b : Int32} : ∀ n, sSum (fun s => sN N s 1) n b = kT N b n
  | 0 => rfl
  | n + 1 => by
    show sSum (fun s => sN N s 1) n b + sN N n 1 = kT N b n + sN N n 1
    rw [kT_ss n]
theorem pT_ss : ∀ n, sSum (fun p => pN N p 0) n 0 = pT N n
  | 0 => rfl
  | n + 1 => by
    show sSum (fun p => pN N p 0) n 0 + pN N n 0 = pT N n + pN N n 0
    rw [pT_ss n]
theorem PJ.imbalance (P : PJ I w N ns) (h : iT N 2 ns = N 7) : f_X9_imbalance I w = some (.ok 0) := by
  have e : sSum (fun s => sN N s 1) ns (sSum (fun p => pN N p 0) 2 0) = N 7 := by rw [kT_ss, pT_ss]; exact h
  unfold f_X9_imbalance
  rw [P.l, e1_ok, ckE_n, b1_so, h_money P.2, b1_so, h_misplaced P.2, b1_so, P.2.h13, e, Int32.sub_self, if_pos (Int32.le_refl _)]
  rfl
theorem PJ.price (P : PJ I w N ns) {k : Nat} (hk : k < 4) (h3 : wN N k 3 = 0) : f_X9_price I w (nI k) = some (.ok (sPrice N k)) := by
  unfold f_X9_price
  rw [P.cw hk, e1_ok, h_priceOf P.2 hk h3, b1_so]
theorem PJ.offer (P : PJ I w N ns) {k s : Nat} (hk : k < 4) (hs : s < ns) (h3 : wN N k 3 = 1) : f_X9_offer I w (nI k) (nI s) = some (.ok (sOff N k s)) := by
  have e := P.2.w5n hk
  unfold f_X9_offer
  rw [P.cw hk, e1_ok, P.cs hs, e1_ok, ixn16 (by omega), b1_so, if_neg (by rw [e]; exact fun h => h h3), h_offerFor P.2 hk hs, b1_so]
theorem PJ.refund (P : PJ I w N ns) {k : Nat} (hk : k < 4) : f_X9_refund I w (nI k) = some (.ok (if wN N k 5 = -1 then -1 else sRef N k)) := by
  unfold f_X9_refund
  rw [P.cw hk, e1_ok, h_refundFor P.2 hk, b1_so]
theorem PJ.buyObstacle (P : PJ I w N ns) {p k : Nat} (hp : p < 2) (hk : k < 4) : f_X9_buyObstacle I w (nI p) (nI k) = some (.ok (sWhyBuy N 4 p k)) := by
  unfold f_X9_buyObstacle
  rw [P.cp hp, e1_ok, P.cw hk, e1_ok, h_whyBuy P.2 hp hk, b1_so]
theorem PJ.returnObstacle (P : PJ I w N ns) {k : Nat} (hk : k < 4) : f_X9_returnObstacle I w (nI k) = some (.ok (sWhyRet N 4 k)) := by
  unfold f_X9_returnObstacle
  rw [P.cw hk, e1_ok, h_whyRet P.2 hk, b1_so]
theorem PJ.cheapestWish (P : PJ I w N ns) {p : Nat} (hp : p < 2) : f_X9_cheapestWish I w (nI p) = some (.ok (oI (sCheap N 4 p (pN N p 0)))) := by
  unfold f_X9_cheapestWish
  rw [P.pa hp, e1_ok, ckA_n (by omega), b1_so, P.2.p1 hp, h_cheapest P.2 hp, b1_so]
theorem PJ.bestGrant (P : PJ I w N ns) {p : Nat} (hp : p < 2) : f_X9_bestGrant I w (nI p) = some (.ok (oI (sGreat N 4 p))) := by
  unfold f_X9_bestGrant
  rw [P.cp hp, e1_ok, h_bestGrant P.2 (by omega), b1_so]
theorem PJ.bestOffer (P : PJ I w N ns) {k : Nat} (hk : k < 4) : f_X9_bestOffer I w (nI k) = some (.ok (oI (sBestOff N ns 4 k))) := by
  unfold f_X9_bestOffer
  rw [P.cw hk, e1_ok, h_bestStall P.2 hk, b1_so]
theorem PJ.untilBirthday (P : PJ I w N ns) {p : Nat} (hp : p < 2) : f_X9_daysUntilBirthday I w (nI p) = some (.ok (if 0 ≤ pN N p 1 - sDay N then pN N p 1 - sDay N else pN N p 1 - sDay N + N 0)) := by
  unfold f_X9_daysUntilBirthday
  rw [P.pa hp, e1_ok, ckA_n (by omega), b1_so, h_today P.2, b1_so, P.2.p2 hp, P.2.h7]
  split <;> rfl
/-- what changes leave: all but the market, the history, the second thoughts, the count of the history -/
def Kp (I I' : Mem) (w : Nat) : Prop := ∀ a, a ≠ w → (a < w + 37 ∨ (w + 99 ≤ a ∧ a < w + 104) ∨ w + 352 ≤ a) → I' a = I a
theorem Kp.refl : Kp I I w := fun _ _ _ => rfl
theorem Kp.trans {I2 : Mem} (h : Kp I I' w) (h2 : Kp I' I2 w) : Kp I I2 w := fun a h3 h4 => (h2 a h3 h4).trans (h a h3 h4)
/-- the class at w, ready for all that follows -/
def PI (I : Mem) (w : Nat) (N : Nat → Int32) (ns : Nat) : Prop := PJ I w N ns ∧ BM I (w + 37) ∧ ∃ u v, (u ≤ 8 ∧ v < 8) ∧ I w 8 = nI u ∧ I w 9 = nI v
theorem PI.rem (P : PI I w N ns) : ∃ I1, f_X9_rememberForUndo I w = some I1 ∧ PI I1 w N ns ∧ Kp I I1 w := by
  obtain ⟨⟨h7, R⟩, B, u, v, ⟨hu, hv⟩, hu1, hv1⟩ := P
  have hv' : (v + 1) % 8 < 8 := Nat.mod_lt _ (by decide)
  have ea : ∀ a, a ≠ w → (u2 I w 9 (nI ((v + 1) % 8))) a = I a := fun a h => u2_a h
  obtain ⟨I3, c1, c2, c3⟩ := h_copyFrom (I := u2 I w 9 (nI ((v + 1) % 8))) (d := w + 104 + 31 * ((v + 1) % 8)) (s := w + 37) (Or.inr (by omega)) (B.fr fun a _ _ => ea a (by omega))
  have e38 : I3 w 8 = nI u := by rw [c3 w (by omega), u2_k (by decide)]; exact hu1
  have e39 : I3 w 9 = nI ((v + 1) % 8) := by rw [c3 w (by omega), u2_s]
  have e0 : ∀ a, a ≠ w → (a < w + 104 ∨ w + 352 ≤ a) → u2 I3 w 8 (nI (if u = 8 then 8 else u + 1)) a = I a := fun a h1 h2 => by rw [u2_a h1, c3 a (by omega), ea a h1]
  refine ⟨u2 I3 w 8 (nI (if u = 8 then 8 else u + 1)), ?_, ⟨⟨?_, R.fr fun a _ _ => e0 a (by omega) (by omega)⟩, B.fr fun a _ _ => e0 a (by omega) (by omega), if u = 8 then 8 else u + 1, (v + 1) % 8, ⟨by split <;> omega, hv'⟩, u2_s, ?_⟩, fun a h1 h2 => e0 a h1 (by omega)⟩
  · unfold f_X9_rememberForUndo
    rw [hv1, nx8 hv, pu_so, b1_so, u2_s, ix_n hv' (by decide), b1_so, c1, b1_so, e38, mn8 hu, pu_so, b1_so]
  · rw [u2_k (by decide), c3 w (by omega), u2_k (by decide)]; exact h7
  · rw [u2_k (by decide)]; exact e39
theorem PI.st (P : PI I w N ns) (R : RM I' (w + 37) N' 2 ns 4) (F : Fr I I' (w + 37) 2 4) : PI I' w N' ns ∧ Kp I I' w := by
  obtain ⟨⟨h7, -⟩, B, u, v, h0, hu1, hv1⟩ := P
  have e : I' w = I w := F w (by omega)
  exact ⟨⟨⟨by rw [e]; exact h7, R⟩, B.keep R F, u, v, h0, by rw [e]; exact hu1, by rw [e]; exact hv1⟩, fun a h1 h2 => F a (by omega)⟩
theorem PI.ch (P : PI I w N ns) : ∃ I1, f_X9_rememberForUndo I w = some I1 ∧ PI I1 w N ns ∧ ∀ {I' : Mem} {N' : Nat → Int32}, RM I' (w + 37) N' 2 ns 4 → Fr I1 I' (w + 37) 2 4 → PI I' w N' ns ∧ Kp I I' w := by
  obtain ⟨I1, r1, r2, r3⟩ := P.rem
  exact ⟨I1, r1, r2, fun R F => ⟨(r2.st R F).1, r3.trans (r2.st R F).2⟩⟩
theorem PI.buy (P : PI I w N ns) {p k : Nat} (hp : p < 2) (hk : k < 4) (h : sWhyBuy N 4 p k = 0) : ∃ I', f_X9_buy I w (nI p) (nI k) = some (.ok (sPrice N k), I') ∧ PI I' w (sBuy N p k) ns ∧ Kp I I' w := by
  obtain ⟨I1, r1, r2, r3⟩ := P.ch
  obtain ⟨I8, g1, g2, g3⟩ := h_buys r2.1.2 hp hk h
  refine ⟨I8, ?_, r3 g2 g3⟩
  unfold f_X9_buy
  rw [P.1.cp hp, e1_ok, P.1.cw hk, e1_ok, h_whyBuy P.1.2 hp hk, b1_so, h_obs, if_pos h, e1_ok, r1, b1_so, g1, b2_so]
theorem PI.sell (P : PI I w N ns) {s k : Nat} (hs : s < ns) (hk : k < 4) (h : sWhySell N 4 k s = 0) : ∃ I', f_X9_sell I w (nI k) (nI s) = some (.ok (sOff N k s), I') ∧ PI I' w (sSell N k s) ns ∧ Kp I I' w := by
  obtain ⟨I1, r1, r2, r3⟩ := P.ch
  obtain ⟨I8, g1, g2, g3⟩ := h_sells r2.1.2 hk hs h
  refine ⟨I8, ?_, r3 g2 g3⟩
  unfold f_X9_sell
  rw [P.1.cw hk, e1_ok, P.1.cs hs, e1_ok, h_whySell P.1.2 hs hk, b1_so, h_obs, if_pos h, e1_ok, r1, b1_so, g1, b2_so]
theorem PI.ret (P : PI I w N ns) {k : Nat} (hk : k < 4) (h : sWhyRet N 4 k = 0) : ∃ I', f_X9_returnWish I w (nI k) = some (.ok (sRef N k), I') ∧ PI I' w (sRet N k) ns ∧ Kp I I' w := by
  obtain ⟨I1, r1, r2, r3⟩ := P.ch
  obtain ⟨I8, g1, g2, g3⟩ := h_returns r2.1.2 hk h
  refine ⟨I8, ?_, r3 g2 g3⟩
  unfold f_X9_returnWish
  rw [P.1.cw hk, e1_ok, h_whyRet P.1.2 hk, b1_so, h_obs, if_pos h, e1_ok, r1, b1_so, g1, b2_so]
theorem PI.grant (P : PI I w N ns) {k : Nat} (hk : k < 4) (h : sWhyGr N k = 0) (h3 : wN N k 3 = 1) : ∃ I', f_X9_grant I w (nI k) = some (.ok (pN N (aT N k) 3 + sVal N k), I') ∧ PI I' w (sGr N k) ns ∧ Kp I I' w := by
  obtain ⟨I1, r1, r2, r3⟩ := P.ch
  obtain ⟨I8, g1, g2, g3⟩ := h_grants r2.1.2 hk h3
  refine ⟨I8, ?_, r3 g2 g3⟩
  unfold f_X9_grant
  rw [P.1.cw hk, e1_ok, h_whyGr P.1.2 hk, b1_so, h_obs, if_pos h, e1_ok, r1, b1_so, g1, b2_so]
theorem rngn {d a b : Nat} (h : a ≤ d ∧ d ≤ b) (hb : b < 1000) : ¬ nI d < nI a ∧ ¬ nI b < nI d :=
  ⟨by rw [nJ_lf h.1 (by omega)]; exact id, by rw [nJ_lf h.2 (by omega)]; exact id⟩
theorem PI.advance (P : PI I w N ns) {d : Nat} (hd : 1 ≤ d ∧ d ≤ 300) : ∃ g I', f_X9_advance I w (nI d) = some (.ok (nI g), I') ∧ PI I' w (sDays N 2 ns 4 d) ns ∧ Kp I I' w ∧ sGrN (sDays N 2 ns 4 d) 4 = sGrN N 4 + g := by
  obtain ⟨I1, r1, r2, r3⟩ := P.ch
  obtain ⟨g, I8, g1, g2, g3, g4⟩ := h_simulate r2.1.2 (d := d) (by omega)
  refine ⟨g, I8, ?_, (r3 g2 g3).1, (r3 g2 g3).2, g4⟩
  unfold f_X9_advance
  rw [P.1.l, e1_ok, ckE_n, b1_so, h_rng, if_pos (show ¬ nI d < 1 ∧ ¬ 300 < nI d from rngn (a := 1) (b := 300) hd (by decide)), e1_ok, r1, b1_so, g1, b2_so]
theorem PI.setLimit (P : PI I w N ns) {p d : Nat} (hp : p < 2) (hd : d ≤ 200) : ∃ I', f_X9_setLimit I w (nI p) (nI d) = some (.ok (pN N p 4), I') ∧ PI I' w (upd N (11 + 14 * p + 4) (nI d)) ns ∧ Kp I I' w := by
  obtain ⟨I1, r1, r2, r3⟩ := P.ch
  have R := r2.1.2.pu (x := nI d) hp (k := 4) (by decide)
  refine ⟨_, ?_, r3 R (Fr.u (by omega))⟩
  unfold f_X9_setLimit
  rw [P.1.pa hp, e1_ok, ckA_n (by omega), b1_so, h_rng, if_pos (show ¬ nI d < 0 ∧ ¬ 200 < nI d from rngn (a := 0) (b := 200) ⟨Nat.zero_le _, hd⟩ (by decide)), e1_ok, r1, b1_so, pu_so, b1_so, r2.1.2.p5 hp]
theorem PI.setMargin (P : PI I w N ns) {s d : Nat} (hs : s < ns) (hd : d ≤ 100) : ∃ I', f_X9_setMargin I w (nI s) (nI d) = some (.ok (sN N s 3), I') ∧ PI I' w (upd N (95 + 4 * s + 3) (nI d)) ns ∧ Kp I I' w := by
  obtain ⟨I1, r1, r2, r3⟩ := P.ch
  have b2 := P.1.2.f.s.2
  have R := r2.1.2.su (x := nI d) hs (k := 3) (Or.inr (Or.inr rfl)) (P.1.2.f.marg (by omega) rfl hd)
  refine ⟨_, ?_, r3 R (Fr.u (by omega))⟩
  unfold f_X9_setMargin
  rw [P.1.sa hs, e1_ok, ckA_n (by omega), b1_so, h_rng, if_pos (show ¬ nI d < 0 ∧ ¬ 100 < nI d from rngn (a := 0) (b := 100) ⟨Nat.zero_le _, hd⟩ (by decide)), e1_ok, r1, b1_so, pu_so, b1_so, r2.1.2.s3 hs]
/-- the second thought leaves all as it was -/
theorem PI.th (P : PI I w N ns) (h : ∀ a, (a < w + 68 ∨ w + 98 < a) → I' a = I a) : PI I' w N ns ∧ Kp I I' w := by
  obtain ⟨⟨h7, R⟩, B, u, v, h0, hu1, hv1⟩ := P
  have e : I' w = I w := h w (by omega)
  exact ⟨⟨⟨by rw [e]; exact h7, R.fr fun a _ _ => h a (by omega)⟩, B.fr fun a _ _ => h a (by omega), u, v, h0, by rw [e]; exact hu1, by rw [e]; exact hv1⟩, fun a h1 h2 => h a (by omega)⟩
theorem PI.coinsAfter (P : PI I w N ns) {p d : Nat} (hp : p < 2) (hd : d ≤ 300) : ∃ I', f_X9_coinsAfter I w (nI p) (nI d) = some (.ok (pN (sDays N 2 ns 4 d) p 0), I') ∧ PI I' w N ns ∧ Kp I I' w := by
  obtain ⟨I5, c1, c2, c3⟩ := h_copyFrom (I := I) (d := w + 68) (s := w + 37) (Or.inr (by omega)) P.2.1
  obtain ⟨g, I8, g1, g2, g3, g4⟩ := h_simulate (c2.rm P.1.2) (d := d) (by omega)
  have e8 : ∀ a, (a < w + 68 ∨ w + 98 < a) → I8 a = I a := fun a h => by rw [g3 a (by omega), c3 a (by omega)]
  refine ⟨I8, ?_, P.th e8⟩
  unfold f_X9_coinsAfter
  rw [P.1.cp hp, e1_ok, h_rng, if_pos (show ¬ nI d < 0 ∧ ¬ 300 < nI d from rngn (a := 0) (b := 300) ⟨Nat.zero_le _, hd⟩ (by decide)), e1_ok, c1, b1_so, g1, b2_so, ixn6 (by omega), b1_so, g2.p1 hp]
theorem PI.valueAfter (P : PI I w N ns) {k d : Nat} (hk : k < 4) (hd : d ≤ 300) : ∃ I', f_X9_valueAfter I w (nI k) (nI d) = some (.ok (sVal (sDays N 2 ns 4 d) k), I') ∧ PI I' w N ns ∧ Kp I I' w := by
  obtain ⟨I5, c1, c2, c3⟩ := h_copyFrom (I := I) (d := w + 68) (s := w + 37) (Or.inr (by omega)) P.2.1
  obtain ⟨g, I8, g1, g2, g3, g4⟩ := h_simulate (c2.rm P.1.2) (d := d) (by omega)
  have e8 : ∀ a, (a < w + 68 ∨ w + 98 < a) → I8 a = I a := fun a h => by rw [g3 a (by omega), c3 a (by omega)]
  refine ⟨I8, ?_, P.th e8⟩
  unfold f_X9_valueAfter
  rw [P.1.cw hk, e1_ok, h_rng, if_pos (show ¬ nI d < 0 ∧ ¬ 300 < nI d from rngn (a := 0) (b := 300) ⟨Nat.zero_le _, hd⟩ (by decide)), e1_ok, c1, b1_so, g1, b2_so, ixn16 (by omega), b1_so, h_worth g2 hk, b1_so]
/-- a slot that holds N -/
def SVD (I : Mem) (w i : Nat) (N : Nat → Int32) (ns : Nat) : Prop := I (w + 101) i = 1 ∧ RM I (w + 352 + 31 * i) N 2 ns 4 ∧ BM I (w + 352 + 31 * i)
theorem SVD.kp {i : Nat} (S : SVD I w i N ns) (h : Kp I I' w) : SVD I' w i N ns :=
  ⟨by rw [h _ (by omega) (by omega)]; exact S.1, S.2.1.fr fun a _ _ => h a (by omega) (by omega), S.2.2.fr fun a _ _ => h a (by omega) (by omega)⟩
theorem PI.save (P : PI I w N ns) {i : Nat} (hi : i < 2) : ∃ I', f_X9_saveState I w (nI i) = some (.ok (N 1), I') ∧ PI I' w N ns ∧ SVD I' w i N ns := by
  obtain ⟨⟨h7, R⟩, B, u, v, h0, hu1, hv1⟩ := P
  obtain ⟨I7, c1, c2, c3⟩ := h_copyFrom (I := I) (d := w + 352 + 31 * i) (s := w + 37) (Or.inr (by omega)) B
  have eI : ∀ a, a ≠ w + 101 → (a < w + 352 + 31 * i ∨ w + 352 + 31 * i + 30 < a) → u2 I7 (w + 101) i 1 a = I a := fun a h1 h2 => by rw [u2_a h1, c3 a (by omega)]
  have eq : ∀ a, w + 352 + 31 * i ≤ a → a ≤ w + 352 + 31 * i + 30 → u2 I7 (w + 101) i 1 a = I7 a := fun a h1 h2 => u2_a (by omega)
  have e : u2 I7 (w + 101) i 1 w = I w := eI w (by omega) (by omega)
  refine ⟨u2 I7 (w + 101) i 1, ?_, ⟨⟨by rw [e]; exact h7, R.fr fun a _ _ => eI a (by omega) (by omega)⟩, B.fr fun a _ _ => eI a (by omega) (by omega), u, v, h0, by rw [e]; exact hu1, by rw [e]; exact hv1⟩, u2_s, (c2.rm R).fr eq, (c2.bm B).fr eq⟩
  unfold f_X9_saveState
  rw [(show PJ I w N ns from ⟨h7, R⟩).l, e1_ok, ckE_n, b1_so, h_checkIndex, if_pos (show ¬ nI i < 0 ∧ nI i < 2 from okn hi (by decide)), e1_ok, ix_n hi (by decide), b1_so, c1, b1_so, b1_so, show vp_nar .boolean 1 = 1 from rfl, pu_so, b1_so, eI (w + 37) (by omega) (by omega), R.h6]
theorem PI.restore (P : PI I w N' ns) {i : Nat} (hi : i < 2) (S : SVD I w i N ns) : ∃ I', f_X9_restoreState I w (nI i) = some (.ok (N 1), I') ∧ PI I' w N ns ∧ I' w 8 = 0 := by
  obtain ⟨⟨h7, R⟩, B, u, v, h0, hu1, hv1⟩ := P
  obtain ⟨I7, c1, c2, c3⟩ := h_copyFrom (I := I) (d := w + 37) (s := w + 352 + 31 * i) (Or.inl (by omega)) S.2.2
  have R7 : RM I7 (w + 37) N 2 ns 4 := c2.rm S.2.1
  have eq : ∀ a, w + 37 ≤ a → a ≤ w + 37 + 30 → u2 I7 w 8 0 a = I7 a := fun a h1 h2 => u2_a (by omega)
  have e7 : ∀ k, k ≠ 8 → u2 I7 w 8 0 w k = I w k := fun k h1 => by rw [u2_k h1, c3 w (by omega)]
  refine ⟨u2 I7 w 8 0, ?_, ⟨⟨by rw [e7 7 (by decide)]; exact h7, R7.fr eq⟩, (c2.bm S.2.2).fr eq, 0, v, ⟨by decide, h0.2⟩, u2_s, by rw [e7 9 (by decide)]; exact hv1⟩, u2_s⟩
  unfold f_X9_restoreState
  rw [h_checkIndex, if_pos (show ¬ nI i < 0 ∧ nI i < 2 from okn hi (by decide)), e1_ok, ix_n hi (by decide), b1_so, S.1, if_neg (by decide), b1_so, c1, b1_so, pu_so, b1_so, eq (w + 37) (by omega) (by omega), R7.h6]
/-- the numbers, as they must be -/
def NV (N : Nat → Int32) (ns D : Nat) : Prop := FX N 2 4 ∧ (∃ d, N 1 = nI d ∧ d ≤ D) ∧ iT N 2 ns = N 7 ∧ 1 ≤ ns ∧ ns ≤ 2
theorem NV.ag {D : Nat} (V : NV N ns D) (A : Ag N N') (T : Tq N N' 2 ns 4) : NV N' ns D := by
  refine ⟨V.1.ag (fun i hi _ => A i hi) (by decide) (by decide), ?_, ?_, V.2.2.2⟩
  · rw [A 1 (Or.inl (by decide))]; exact V.2.1
  · rw [T.1.2, T.1.1]; exact V.2.2.1
theorem NV.days {D : Nat} (V : NV N ns D) (H : WF N 2 ns 4) (d : Nat) : NV (sDays N 2 ns 4 d) ns (D + d) := by
  obtain ⟨x, h1, h2⟩ := V.2.1
  have A := a_days H h1 d
  refine ⟨V.1.ag (fun i hi h => ?_) (by decide) (by decide), ⟨x + d, ?_, by omega⟩, ?_, V.2.2.2⟩
  · rw [A i hi, upd_n h]
  · rw [A 1 (Or.inl (by decide)), upd_s]
  · rw [(t_days H d).2.1.2, (t_days H d).2.1.1]; exact V.2.2.1
end CLX
