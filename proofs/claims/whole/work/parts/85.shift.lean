/-! decoding in a window of the code: where the bytes agree, so do the instructions -/
abbrev Dc (α : Type) : Type := Jvm.ClassFile.Decoder α
def AgB (c c' : ByteArray) (off : Nat) : Prop := ∀ (i : Nat) (h : i < c'.size), ∃ h2 : off + i < c.size, c[off + i] = c'[i]
def Sh {α : Type} (c c' : ByteArray) (off : Nat) (d d' : Dc α) : Prop := ∀ (q : Nat) (a : α) (p : Nat), d' c' q = .ok (a, p) → d c (off + q) = .ok (a, off + p)
section SHs
variable {c c' : ByteArray} {off : Nat}
theorem Sh.pure {α : Type} {a : α} : Sh c c' off (Pure.pure a) (Pure.pure a) := by
  intro q b p e
  cases e
  rfl
theorem Sh.thr {α : Type} {d : Dc α} {e9 : Jvm.ClassFile.DecodeError} : Sh c c' off d (throw e9) := by
  intro q b p e
  cases e
theorem Sh.bind {α β : Type} {d d' : Dc α} {f f' : α → Dc β} (h : Sh c c' off d d') (hf : ∀ a, Sh c c' off (f a) (f' a)) : Sh c c' off (d >>= f) (d' >>= f') := by
  intro q b p e
  have e1 : (d' >>= f') c' q = ((d' c' q) >>= fun x => f' x.1 c' x.2) := rfl
  have e2 : (d >>= f) c (off + q) = ((d c (off + q)) >>= fun x => f x.1 c x.2) := rfl
  rw [e1] at e
  rw [e2]
  cases hd : d' c' q with
  | error z => rw [hd] at e; cases e
  | ok x =>
    obtain ⟨a, p1⟩ := x
    rw [hd] at e
    rw [h q a p1 hd]
    exact hf a p1 b p e
theorem u1_at {q : Nat} : (Jvm.ClassFile.Reader.u1 : Dc Nat) c q = if h : q < c.size then .ok (c[q].toNat, q + 1) else .error (Jvm.ClassFile.HasTruncated.truncated q) := by
  by_cases h : q < c.size
  · rw [dif_pos h]
    show (if h : q < c.size then _ else _ : Dc Nat) c q = _
    rw [dif_pos h]
    rfl
  · rw [dif_neg h]
    show (if h : q < c.size then _ else _ : Dc Nat) c q = _
    rw [dif_neg h]
    rfl
theorem Sh.u1 (hA : AgB c c' off) : Sh c c' off (Jvm.ClassFile.Reader.u1 : Dc Nat) Jvm.ClassFile.Reader.u1 := by
  intro q a p e
  rw [u1_at] at e ⊢
  by_cases h : q < c'.size
  · obtain ⟨h2, h3⟩ := hA q h
    rw [dif_pos h] at e
    rw [dif_pos h2, h3]
    cases e
    rfl
  · rw [dif_neg h] at e
    cases e
theorem Sh.u2 (hA : AgB c c' off) : Sh c c' off (Jvm.ClassFile.Reader.u2 : Dc Nat) Jvm.ClassFile.Reader.u2 := Sh.bind (Sh.u1 hA) fun _ => Sh.bind (Sh.u1 hA) fun _ => Sh.pure
theorem Sh.map {α β : Type} {f : α → β} {d d' : Dc α} (h : Sh c c' off d d') : Sh c c' off (f <$> d) (f <$> d') := by
  intro q b p e
  have e1 : (f <$> d') c' q = ((d' c' q) >>= fun x => .ok (f x.1, x.2)) := rfl
  have e2 : (f <$> d) c (off + q) = ((d c (off + q)) >>= fun x => .ok (f x.1, x.2)) := rfl
  rw [e1] at e
  rw [e2]
  cases hd : d' c' q with
  | error z => rw [hd] at e; cases e
  | ok x =>
    obtain ⟨a, p1⟩ := x
    rw [hd] at e
    rw [h q a p1 hd]
    cases e
    rfl
theorem Sh.s1 (hA : AgB c c' off) : Sh c c' off (Jvm.ClassFile.Reader.s1 : Dc Int) Jvm.ClassFile.Reader.s1 := Sh.map (Sh.u1 hA)
theorem Sh.s2 (hA : AgB c c' off) : Sh c c' off (Jvm.ClassFile.Reader.s2 : Dc Int) Jvm.ClassFile.Reader.s2 := Sh.map (Sh.u2 hA)
def okOp (v : Nat) : Bool := !([169, 170, 171, 185, 186, 188, 196, 197, 200, 201].contains v)
/-- one step less at the end -/
theorem Sh.b1 {α β : Type} {d d' : Dc α} {f : α → β} (h : Sh c c' off d d') : Sh c c' off (d >>= fun a => Pure.pure (f a)) (d' >>= fun a => Pure.pure (f a)) := Sh.bind h fun _ => Sh.pure
end SHs
set_option maxHeartbeats 4000000 in
set_option maxRecDepth 100000 in
theorem decode_sh {c c' : ByteArray} {off q len : Nat} {ins : Instr} (hA : AgB c c' off) (h : decode c' q = .ok (ins, len)) (v : Nat) (hv : ∃ hq : q < c'.size, c'[q].toNat = v) (hop : okOp v = true) : decode c (off + q) = .ok (ins, len) := by
  have key : ∀ (pc pc' : Nat) (a : Instr) (p : Nat), Jvm.ClassFile.Decoder.instr pc' c' q = .ok (a, p) → Jvm.ClassFile.Decoder.instr pc c (off + q) = .ok (a, off + p) := by
    intro pc pc' a p e
    obtain ⟨hq, hvq⟩ := hv
    obtain ⟨h2, h3⟩ := hA q hq
    unfold Jvm.ClassFile.Decoder.instr at e ⊢
    have e1 : ∀ (f : Nat → Dc Instr) (cc : ByteArray) (q : Nat), ((Jvm.ClassFile.Reader.u1 : Dc Nat) >>= f) cc q = (((Jvm.ClassFile.Reader.u1 : Dc Nat) cc q) >>= fun x => f x.1 cc x.2) := fun _ _ _ => rfl
    rw [e1, u1_at, dif_pos hq, hvq] at e
    rw [e1, u1_at, dif_pos h2, h3, hvq]
    have e2 : ∀ (x : Nat × Nat) (g : Nat × Nat → Except Jvm.ClassFile.DecodeError (Instr × Nat)), ((.ok x : Except Jvm.ClassFile.DecodeError (Nat × Nat)) >>= g) = g x := fun _ _ => rfl
    rw [e2] at e
    rw [e2]
    dsimp only at e ⊢
    rw [show off + q + 1 = off + (q + 1) by omega]
    generalize q + 1 = q1 at e ⊢
    clear hvq e1 e2 h
    split at e
    all_goals first
      | exact Sh.pure q1 a p e
      | exact Sh.b1 (Sh.u1 hA) q1 a p e
      | exact Sh.b1 (Sh.u2 hA) q1 a p e
      | exact Sh.b1 (Sh.s1 hA) q1 a p e
      | exact Sh.b1 (Sh.s2 hA) q1 a p e
      | exact Sh.bind (Sh.u1 hA) (fun _ => Sh.b1 (Sh.s1 hA)) q1 a p e
      | exact absurd hop (by decide)
      | cases e
  have e1 : ∀ (cc : ByteArray) (q : Nat), decode cc q = ((Jvm.ClassFile.Decoder.instr q cc q) >>= fun x => .ok (x.1, x.2 - q)) := fun _ _ => rfl
  rw [e1] at h ⊢
  cases hd : Jvm.ClassFile.Decoder.instr q c' q with
  | error z => rw [hd] at h; cases h
  | ok x =>
    obtain ⟨a, p1⟩ := x
    rw [hd] at h
    rw [key (off + q) q a p1 hd]
    have h9 : (a, p1 - q) = (ins, len) := Except.ok.inj h
    show Except.ok (a, off + p1 - (off + q)) = _
    rw [Nat.add_sub_add_left, h9]
