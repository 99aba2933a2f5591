/-! the calls that only look, as the law's cases want them -/
theorem lc_of {M9 M10 : MD} {c9 c10 : ByteArray} {es : List String} {As : List Value} {I : Mem} {K : Kt} {w m kb gb D : Nat} {r : Except String Int32} {t b : Int32} (S : ST I K w m kb gb D) (c1 : Ct M9 c9 (cst r) (cs6 r) (.ref w :: As) I K (Ro (rI r) I K)) (hO : Oc es r t b) (c3 : ∀ Kj, MK Kj m → Ct M10 c10 0 0 (.ref m :: As) I Kj (Ro (.inl (some (.int b))) (u2 I m 0 t) Kj)) : LC M9 c9 M10 c10 es As I K w m kb gb (D + 300) :=
  ⟨r, t, b, I, u2 I m 0 t, K, cst r, cs6 r, ⟨c1, hO.ec, c3⟩, ⟨u2_s, fun v h => by subst h; exact hO.2⟩, S.th.le (Nat.le_add_right _ _), ⟨Gm.refl, KA.refl⟩, by cases r <;> exact Nat.le_trans (Nat.le_of_ble_eq_true rfl) (Nat.le_add_right 2 _), by cases r <;> exact Nat.le_trans (Nat.le_of_ble_eq_true rfl) (Nat.le_add_right 12 _)⟩
section LCs
variable {I : Mem} {K : Kt} {w m kb gb D : Nat}
theorem lc_day (S : ST I K w m kb gb D) : LC (mX9_day 7) cX9_day (mX10_day 3) cX10_day [eIS] [] I K w m kb gb (D + 300) := by
  obtain ⟨l, np, ns, nw, B, G⟩ := S.br
  obtain ⟨r, t, b, h1, h2, hO⟩ := u_day B
  exact lc_of S (c_X9_day 0 S.lw h1) hO (fun Kj hM => c_X10_day 0 hM h2)
theorem lc_yearLength (S : ST I K w m kb gb D) : LC (mX9_yearLength 7) cX9_yearLength (mX10_yearLength 3) cX10_yearLength [eIS] [] I K w m kb gb (D + 300) := by
  obtain ⟨l, np, ns, nw, B, G⟩ := S.br
  obtain ⟨r, t, b, h1, h2, hO⟩ := u_yearLength B
  exact lc_of S (c_X9_yearLength 0 S.lw h1) hO (fun Kj hM => c_X10_yearLength 0 hM h2)
theorem lc_dayOfYear (S : ST I K w m kb gb D) : LC (mX9_dayOfYear 7) cX9_dayOfYear (mX10_dayOfYear 2) cX10_dayOfYear [eIS] [] I K w m kb gb (D + 300) := by
  obtain ⟨l, np, ns, nw, B, G⟩ := S.br
  obtain ⟨r, t, b, h1, h2, hO⟩ := u_dayOfYear B
  exact lc_of S (c_X9_dayOfYear 0 S.lw h1) hO (fun Kj hM => c_X10_dayOfYear 0 hM h2)
theorem lc_grantedCount (S : ST I K w m kb gb D) : LC (mX9_grantedCount 7) cX9_grantedCount (mX10_grantedCount 2) cX10_grantedCount [eIS] [] I K w m kb gb (D + 300) := by
  obtain ⟨l, np, ns, nw, B, G⟩ := S.br
  obtain ⟨r, t, b, h1, h2, hO⟩ := u_grantedCount B
  exact lc_of S (c_X9_grantedCount 0 S.lw h1) hO (fun Kj hM => c_X10_grantedCount 0 hM h2)
theorem lc_fadedCount (S : ST I K w m kb gb D) : LC (mX9_fadedCount 7) cX9_fadedCount (mX10_fadedCount 2) cX10_fadedCount [eIS] [] I K w m kb gb (D + 300) := by
  obtain ⟨l, np, ns, nw, B, G⟩ := S.br
  obtain ⟨r, t, b, h1, h2, hO⟩ := u_fadedCount B
  exact lc_of S (c_X9_fadedCount 0 S.lw h1) hO (fun Kj hM => c_X10_fadedCount 0 hM h2)
theorem lc_imbalance (S : ST I K w m kb gb D) : LC (mX9_imbalance 7) cX9_imbalance (mX10_imbalance 2) cX10_imbalance [eIS] [] I K w m kb gb (D + 300) := by
  obtain ⟨l, np, ns, nw, B, G⟩ := S.br
  obtain ⟨r, t, b, h1, h2, hO⟩ := u_imbalance B
  exact lc_of S (c_X9_imbalance 0 S.lw h1) hO (fun Kj hM => c_X10_imbalance 0 hM h2)
theorem lc_personCount (S : ST I K w m kb gb D) : LC (mX9_personCount 7) cX9_personCount (mX10_personCount 3) cX10_personCount [eIS] [] I K w m kb gb (D + 300) := by
  obtain ⟨l, np, ns, nw, B, G⟩ := S.br
  obtain ⟨r, t, b, h1, h2, hO⟩ := u_personCount B
  exact lc_of S (c_X9_personCount 0 S.lw h1) hO (fun Kj hM => c_X10_personCount 0 hM h2)
theorem lc_coins (S : ST I K w m kb gb D) {x : Int32} : LC (mX9_coins 9) cX9_coins (mX10_coins 3) cX10_coins [eIS, eIX] [.int x] I K w m kb gb (D + 300) := by
  obtain ⟨l, np, ns, nw, B, G⟩ := S.br
  obtain ⟨r, t, b, h1, h2, hO⟩ := u_coins B (x := x)
  exact lc_of S (c_X9_coins 0 S.lw h1) hO (fun Kj hM => c_X10_coins 0 hM h2)
theorem lc_birthday (S : ST I K w m kb gb D) {x : Int32} : LC (mX9_birthday 9) cX9_birthday (mX10_birthday 3) cX10_birthday [eIS, eIX] [.int x] I K w m kb gb (D + 300) := by
  obtain ⟨l, np, ns, nw, B, G⟩ := S.br
  obtain ⟨r, t, b, h1, h2, hO⟩ := u_birthday B (x := x)
  exact lc_of S (c_X9_birthday 0 S.lw h1) hO (fun Kj hM => c_X10_birthday 0 hM h2)
theorem lc_candles (S : ST I K w m kb gb D) {x : Int32} : LC (mX9_candles 9) cX9_candles (mX10_candles 3) cX10_candles [eIS, eIX] [.int x] I K w m kb gb (D + 300) := by
  obtain ⟨l, np, ns, nw, B, G⟩ := S.br
  obtain ⟨r, t, b, h1, h2, hO⟩ := u_candles B (x := x)
  exact lc_of S (c_X9_candles 0 S.lw h1) hO (fun Kj hM => c_X10_candles 0 hM h2)
theorem lc_happiness (S : ST I K w m kb gb D) {x : Int32} : LC (mX9_happiness 9) cX9_happiness (mX10_happiness 3) cX10_happiness [eIS, eIX] [.int x] I K w m kb gb (D + 300) := by
  obtain ⟨l, np, ns, nw, B, G⟩ := S.br
  obtain ⟨r, t, b, h1, h2, hO⟩ := u_happiness B (x := x)
  exact lc_of S (c_X9_happiness 0 S.lw h1) hO (fun Kj hM => c_X10_happiness 0 hM h2)
theorem lc_ownedCount (S : ST I K w m kb gb D) {x : Int32} : LC (mX9_ownedCount 8) cX9_ownedCount (mX10_ownedCount 4) cX10_ownedCount [eIS, eIX] [.int x] I K w m kb gb (D + 300) := by
  obtain ⟨l, np, ns, nw, B, G⟩ := S.br
  obtain ⟨r, t, b, h1, h2, hO⟩ := u_ownedCount B (x := x)
  exact lc_of S (c_X9_ownedCount 0 S.lw h1) hO (fun Kj hM => c_X10_ownedCount 0 hM h2)
theorem lc_shoppingLimit (S : ST I K w m kb gb D) {x : Int32} : LC (mX9_shoppingLimit 9) cX9_shoppingLimit (mX10_shoppingLimit 3) cX10_shoppingLimit [eIS, eIX] [.int x] I K w m kb gb (D + 300) := by
  obtain ⟨l, np, ns, nw, B, G⟩ := S.br
  obtain ⟨r, t, b, h1, h2, hO⟩ := u_shoppingLimit B (x := x)
  exact lc_of S (c_X9_shoppingLimit 0 S.lw h1) hO (fun Kj hM => c_X10_shoppingLimit 0 hM h2)
theorem lc_daysUntilBirthday (S : ST I K w m kb gb D) (hD : D < 2000000) {x : Int32} : LC (mX9_daysUntilBirthday 9) cX9_daysUntilBirthday (mX10_daysUntilBirthday 3) cX10_daysUntilBirthday [eIS, eIX] [.int x] I K w m kb gb (D + 300) := by
  obtain ⟨l, np, ns, nw, B, G⟩ := S.br
  obtain ⟨r, t, b, h1, h2, hO⟩ := u_daysUntilBirthday B (fun h => ⟨(G h).1, (G h).2.1.imp fun d hd => ⟨hd.1, by omega⟩⟩) (x := x)
  exact lc_of S (c_X9_daysUntilBirthday 0 S.lw h1) hO (fun Kj hM => c_X10_daysUntilBirthday 0 hM h2)
theorem lc_stallCount (S : ST I K w m kb gb D) : LC (mX9_stallCount 7) cX9_stallCount (mX10_stallCount 3) cX10_stallCount [eIS] [] I K w m kb gb (D + 300) := by
  obtain ⟨l, np, ns, nw, B, G⟩ := S.br
  obtain ⟨r, t, b, h1, h2, hO⟩ := u_stallCount B
  exact lc_of S (c_X9_stallCount 0 S.lw h1) hO (fun Kj hM => c_X10_stallCount 0 hM h2)
theorem lc_cash (S : ST I K w m kb gb D) {x : Int32} : LC (mX9_cash 9) cX9_cash (mX10_cash 3) cX10_cash [eIS, eIX] [.int x] I K w m kb gb (D + 300) := by
  obtain ⟨l, np, ns, nw, B, G⟩ := S.br
  obtain ⟨r, t, b, h1, h2, hO⟩ := u_cash B (x := x)
  exact lc_of S (c_X9_cash 0 S.lw h1) hO (fun Kj hM => c_X10_cash 0 hM h2)
theorem lc_stars (S : ST I K w m kb gb D) {x : Int32} : LC (mX9_stars 9) cX9_stars (mX10_stars 3) cX10_stars [eIS, eIX] [.int x] I K w m kb gb (D + 300) := by
  obtain ⟨l, np, ns, nw, B, G⟩ := S.br
  obtain ⟨r, t, b, h1, h2, hO⟩ := u_stars B (x := x)
  exact lc_of S (c_X9_stars 0 S.lw h1) hO (fun Kj hM => c_X10_stars 0 hM h2)
theorem lc_margin (S : ST I K w m kb gb D) {x : Int32} : LC (mX9_margin 9) cX9_margin (mX10_margin 3) cX10_margin [eIS, eIX] [.int x] I K w m kb gb (D + 300) := by
  obtain ⟨l, np, ns, nw, B, G⟩ := S.br
  obtain ⟨r, t, b, h1, h2, hO⟩ := u_margin B (x := x)
  exact lc_of S (c_X9_margin 0 S.lw h1) hO (fun Kj hM => c_X10_margin 0 hM h2)
theorem lc_stockCount (S : ST I K w m kb gb D) {x : Int32} : LC (mX9_stockCount 8) cX9_stockCount (mX10_stockCount 3) cX10_stockCount [eIS, eIX] [.int x] I K w m kb gb (D + 300) := by
  obtain ⟨l, np, ns, nw, B, G⟩ := S.br
  obtain ⟨r, t, b, h1, h2, hO⟩ := u_stockCount B (x := x)
  exact lc_of S (c_X9_stockCount 0 S.lw h1) hO (fun Kj hM => c_X10_stockCount 0 hM h2)
theorem lc_baseValue (S : ST I K w m kb gb D) {x : Int32} : LC (mX9_baseValue 9) cX9_baseValue (mX10_baseValue 3) cX10_baseValue [eIS, eIX] [.int x] I K w m kb gb (D + 300) := by
  obtain ⟨l, np, ns, nw, B, G⟩ := S.br
  obtain ⟨r, t, b, h1, h2, hO⟩ := u_baseValue B (x := x)
  exact lc_of S (c_X9_baseValue 0 S.lw h1) hO (fun Kj hM => c_X10_baseValue 0 hM h2)
theorem lc_strength (S : ST I K w m kb gb D) {x : Int32} : LC (mX9_strength 9) cX9_strength (mX10_strength 3) cX10_strength [eIS, eIX] [.int x] I K w m kb gb (D + 300) := by
  obtain ⟨l, np, ns, nw, B, G⟩ := S.br
  obtain ⟨r, t, b, h1, h2, hO⟩ := u_strength B (x := x)
  exact lc_of S (c_X9_strength 0 S.lw h1) hO (fun Kj hM => c_X10_strength 0 hM h2)
theorem lc_wear (S : ST I K w m kb gb D) {x : Int32} : LC (mX9_wear 9) cX9_wear (mX10_wear 3) cX10_wear [eIS, eIX] [.int x] I K w m kb gb (D + 300) := by
  obtain ⟨l, np, ns, nw, B, G⟩ := S.br
  obtain ⟨r, t, b, h1, h2, hO⟩ := u_wear B (x := x)
  exact lc_of S (c_X9_wear 0 S.lw h1) hO (fun Kj hM => c_X10_wear 0 hM h2)
theorem lc_value (S : ST I K w m kb gb D) {x : Int32} : LC (mX9_value 9) cX9_value (mX10_value 3) cX10_value [eIS, eIX] [.int x] I K w m kb gb (D + 300) := by
  obtain ⟨l, np, ns, nw, B, G⟩ := S.br
  obtain ⟨r, t, b, h1, h2, hO⟩ := u_value B (x := x)
  exact lc_of S (c_X9_value 0 S.lw h1) hO (fun Kj hM => c_X10_value 0 hM h2)
theorem lc_owner (S : ST I K w m kb gb D) {x : Int32} : LC (mX9_owner 9) cX9_owner (mX10_owner 3) cX10_owner [eIS, eIX] [.int x] I K w m kb gb (D + 300) := by
  obtain ⟨l, np, ns, nw, B, G⟩ := S.br
  obtain ⟨r, t, b, h1, h2, hO⟩ := u_owner B (x := x)
  exact lc_of S (c_X9_owner 0 S.lw h1) hO (fun Kj hM => c_X10_owner 0 hM h2)
theorem lc_stallOf (S : ST I K w m kb gb D) {x : Int32} : LC (mX9_stallOf 9) cX9_stallOf (mX10_stallOf 3) cX10_stallOf [eIS, eIX] [.int x] I K w m kb gb (D + 300) := by
  obtain ⟨l, np, ns, nw, B, G⟩ := S.br
  obtain ⟨r, t, b, h1, h2, hO⟩ := u_stallOf B (x := x)
  exact lc_of S (c_X9_stallOf 0 S.lw h1) hO (fun Kj hM => c_X10_stallOf 0 hM h2)
theorem is01 {x : Int32} {v : Int32} (h : f_X9_isGranted I w x = some (.ok v)) : v = 0 ∨ v = 1 := by
  unfold f_X9_isGranted at h
  rcases e1_s h with ⟨a, h1, h⟩ | ⟨E, h1, h⟩
  · obtain ⟨j, h2, h⟩ := b1_s h
    obtain ⟨u, h3, h⟩ := b1_s h
    cases h
    exact cB_s h3
  · cases h
theorem lc_isGranted (S : ST I K w m kb gb D) {x : Int32} : LB (mX9_isGranted 9) cX9_isGranted (mX10_isGranted 3) cX10_isGranted [eIS, eIX] [.int x] I K w m kb gb (D + 300) := by
  obtain ⟨l, np, ns, nw, B, G⟩ := S.br
  obtain ⟨r, t, b, h1, h2, hO⟩ := u_isGranted B (x := x)
  exact ⟨r, t, b, u2 I m 0 t, ⟨c_X9_isGranted 0 S.lw h1, hO.ec, fun Kj hM => c_X10_isGranted 0 hM h2⟩, ⟨u2_s, fun v h => by subst h; exact hO.2, fun v h => by subst h; exact is01 h1⟩, S.th.le (Nat.le_add_right _ _)⟩
theorem lc_purchaseDay (S : ST I K w m kb gb D) {x : Int32} : LC (mX9_purchaseDay 9) cX9_purchaseDay (mX10_purchaseDay 3) cX10_purchaseDay [eIS, eIX] [.int x] I K w m kb gb (D + 300) := by
  obtain ⟨l, np, ns, nw, B, G⟩ := S.br
  obtain ⟨r, t, b, h1, h2, hO⟩ := u_purchaseDay B (x := x)
  exact lc_of S (c_X9_purchaseDay 0 S.lw h1) hO (fun Kj hM => c_X10_purchaseDay 0 hM h2)
theorem lc_purchasePrice (S : ST I K w m kb gb D) {x : Int32} : LC (mX9_purchasePrice 9) cX9_purchasePrice (mX10_purchasePrice 3) cX10_purchasePrice [eIS, eIX] [.int x] I K w m kb gb (D + 300) := by
  obtain ⟨l, np, ns, nw, B, G⟩ := S.br
  obtain ⟨r, t, b, h1, h2, hO⟩ := u_purchasePrice B (x := x)
  exact lc_of S (c_X9_purchasePrice 0 S.lw h1) hO (fun Kj hM => c_X10_purchasePrice 0 hM h2)
theorem lc_price (S : ST I K w m kb gb D) {x : Int32} : LC (mX9_price 8) cX9_price (mX10_price 3) cX10_price [eIS, eIX] [.int x] I K w m kb gb (D + 300) := by
  obtain ⟨l, np, ns, nw, B, G⟩ := S.br
  obtain ⟨r, t, b, h1, h2, hO⟩ := u_price B (x := x)
  exact lc_of S (c_X9_price 0 S.lw h1) hO (fun Kj hM => c_X10_price 0 hM h2)
theorem lc_offer (S : ST I K w m kb gb D) {x y : Int32} : LC (mX9_offer 8) cX9_offer (mX10_offer 3) cX10_offer [eIS, eIX] [.int x, .int y] I K w m kb gb (D + 300) := by
  obtain ⟨l, np, ns, nw, B, G⟩ := S.br
  obtain ⟨r, t, b, h1, h2, hO⟩ := u_offer B (x := x) (y := y)
  exact lc_of S (c_X9_offer 0 S.lw h1) hO (fun Kj hM => c_X10_offer 0 hM h2)
theorem lc_refund (S : ST I K w m kb gb D) {x : Int32} : LC (mX9_refund 8) cX9_refund (mX10_refund 3) cX10_refund [eIS, eIX] [.int x] I K w m kb gb (D + 300) := by
  obtain ⟨l, np, ns, nw, B, G⟩ := S.br
  obtain ⟨r, t, b, h1, h2, hO⟩ := u_refund B (x := x)
  exact lc_of S (c_X9_refund 0 S.lw h1) hO (fun Kj hM => c_X10_refund 0 hM h2)
theorem lc_buyObstacle (S : ST I K w m kb gb D) {x y : Int32} : LC (mX9_buyObstacle 8) cX9_buyObstacle (mX10_buyObstacle 5) cX10_buyObstacle [eIS, eIX] [.int x, .int y] I K w m kb gb (D + 300) := by
  obtain ⟨l, np, ns, nw, B, G⟩ := S.br
  obtain ⟨r, t, b, h1, h2, hO⟩ := u_buyObstacle B (x := x) (y := y)
  exact lc_of S (c_X9_buyObstacle 0 S.lw h1) hO (fun Kj hM => c_X10_buyObstacle 0 hM h2)
theorem lc_sellObstacle (S : ST I K w m kb gb D) {x y : Int32} : LC (mX9_sellObstacle 8) cX9_sellObstacle (mX10_sellObstacle 5) cX10_sellObstacle [eIS, eIX] [.int x, .int y] I K w m kb gb (D + 300) := by
  obtain ⟨l, np, ns, nw, B, G⟩ := S.br
  obtain ⟨r, t, b, h1, h2, hO⟩ := u_sellObstacle B (x := x) (y := y)
  exact lc_of S (c_X9_sellObstacle 0 S.lw h1) hO (fun Kj hM => c_X10_sellObstacle 0 hM h2)
theorem lc_returnObstacle (S : ST I K w m kb gb D) {x : Int32} : LC (mX9_returnObstacle 8) cX9_returnObstacle (mX10_returnObstacle 5) cX10_returnObstacle [eIS, eIX] [.int x] I K w m kb gb (D + 300) := by
  obtain ⟨l, np, ns, nw, B, G⟩ := S.br
  obtain ⟨r, t, b, h1, h2, hO⟩ := u_returnObstacle B (x := x)
  exact lc_of S (c_X9_returnObstacle 0 S.lw h1) hO (fun Kj hM => c_X10_returnObstacle 0 hM h2)
theorem lc_grantObstacle (S : ST I K w m kb gb D) {x : Int32} : LC (mX9_grantObstacle 8) cX9_grantObstacle (mX10_grantObstacle 3) cX10_grantObstacle [eIS, eIX] [.int x] I K w m kb gb (D + 300) := by
  obtain ⟨l, np, ns, nw, B, G⟩ := S.br
  obtain ⟨r, t, b, h1, h2, hO⟩ := u_grantObstacle B (x := x)
  exact lc_of S (c_X9_grantObstacle 0 S.lw h1) hO (fun Kj hM => c_X10_grantObstacle 0 hM h2)
theorem lc_cheapestWish (S : ST I K w m kb gb D) {x : Int32} : LC (mX9_cheapestWish 9) cX9_cheapestWish (mX10_cheapestWish 6) cX10_cheapestWish [eIS, eIX] [.int x] I K w m kb gb (D + 300) := by
  obtain ⟨l, np, ns, nw, B, G⟩ := S.br
  obtain ⟨r, t, b, h1, h2, hO⟩ := u_cheapestWish B (x := x)
  exact lc_of S (c_X9_cheapestWish 0 S.lw h1) hO (fun Kj hM => c_X10_cheapestWish 0 hM h2)
theorem lc_bestGrant (S : ST I K w m kb gb D) {x : Int32} : LC (mX9_bestGrant 8) cX9_bestGrant (mX10_bestGrant 4) cX10_bestGrant [eIS, eIX] [.int x] I K w m kb gb (D + 300) := by
  obtain ⟨l, np, ns, nw, B, G⟩ := S.br
  obtain ⟨r, t, b, h1, h2, hO⟩ := u_bestGrant B (x := x)
  exact lc_of S (c_X9_bestGrant 0 S.lw h1) hO (fun Kj hM => c_X10_bestGrant 0 hM h2)
theorem lc_bestOffer (S : ST I K w m kb gb D) {x : Int32} : LC (mX9_bestOffer 8) cX9_bestOffer (mX10_bestOffer 6) cX10_bestOffer [eIS, eIX] [.int x] I K w m kb gb (D + 300) := by
  obtain ⟨l, np, ns, nw, B, G⟩ := S.br
  obtain ⟨r, t, b, h1, h2, hO⟩ := u_bestOffer B (x := x)
  exact lc_of S (c_X9_bestOffer 0 S.lw h1) hO (fun Kj hM => c_X10_bestOffer 0 hM h2)
theorem lc_daysUntilFaded (S : ST I K w m kb gb D) {x : Int32} : LC (mX9_daysUntilFaded 9) cX9_daysUntilFaded (mX10_daysUntilFaded 3) cX10_daysUntilFaded [eIS, eIX] [.int x] I K w m kb gb (D + 300) := by
  obtain ⟨l, np, ns, nw, B, G⟩ := S.br
  obtain ⟨r, t, b, h1, h2, hO⟩ := u_daysUntilFaded B (x := x)
  exact lc_of S (c_X9_daysUntilFaded 0 S.lw h1) hO (fun Kj hM => c_X10_daysUntilFaded 0 hM h2)
theorem lc_parseErrorCode (S : ST I K w m kb gb D) : LN (mX9_parseErrorCode 0) cX9_parseErrorCode (mX10_parseErrorCode 1) cX10_parseErrorCode [] I K w m kb gb (D + 300) := by
  obtain ⟨v, h1, h2⟩ := u_parseErrorCode S.2.2.2.2.2.1.1
  exact ⟨v, I, u2 I m 0 0, c_X9_parseErrorCode 0 S.lw h1, c_X10_parseErrorCode 0 S.mk h2, S.th.le (Nat.le_add_right _ _)⟩
theorem lc_parseErrorPosition (S : ST I K w m kb gb D) : LN (mX9_parseErrorPosition 0) cX9_parseErrorPosition (mX10_parseErrorPosition 1) cX10_parseErrorPosition [] I K w m kb gb (D + 300) := by
  obtain ⟨v, h1, h2⟩ := u_parseErrorPosition S.2.2.2.2.2.1.2
  exact ⟨v, I, u2 I m 0 0, c_X9_parseErrorPosition 0 S.lw h1, c_X10_parseErrorPosition 0 S.mk h2, S.th.le (Nat.le_add_right _ _)⟩
theorem lc_bufferLength (S : ST I K w m kb gb D) : LN (mX9_bufferLength 0) cX9_bufferLength (mX10_bufferLength 1) cX10_bufferLength [] I K w m kb gb (D + 300) := by
  obtain ⟨f, hF, -⟩ := S.2.2.2.2.2.2.1
  obtain ⟨v, h1, h2⟩ := u_bufferLength (hF.2.1.trans hF.2.2.symm)
  exact ⟨v, I, u2 I m 0 0, c_X9_bufferLength 0 S.lw h1, c_X10_bufferLength 0 S.mk h2, S.th.le (Nat.le_add_right _ _)⟩
theorem lc_undoCount (S : ST I K w m kb gb D) : LN (mX9_undoCount 0) cX9_undoCount (mX10_undoCount 1) cX10_undoCount [] I K w m kb gb (D + 300) := by
  obtain ⟨u, v, hU⟩ := S.2.2.2.1
  obtain ⟨v, h1, h2⟩ := u_undoCount (hU.2.1.1.trans hU.2.1.2.1.symm)
  exact ⟨v, I, u2 I m 0 0, c_X9_undoCount 0 S.lw h1, c_X10_undoCount 0 S.mk h2, S.th.le (Nat.le_add_right _ _)⟩
end LCs
