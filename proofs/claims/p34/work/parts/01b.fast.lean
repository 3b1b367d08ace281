section
-- ===== the tables, checked from the few bytes of each instruction: decode looks at no others =====
abbrev Dc (α : Type) := Jvm.ClassFile.Decoder α
theorem b_ok {α β : Type} {d : Dc α} {f : α → Dc β} {s : ByteArray} {q q1 : Nat} {a : α} (h : d s q = .ok (a, q1)) : (d >>= f : Dc β) s q = f a s q1 := by
  show Except.bind (d s q) _ = _
  rw [h]
  rfl
theorem m_ok {α β : Type} {d : Dc α} {f : α → β} {s : ByteArray} {q q1 : Nat} {a : α} (h : d s q = .ok (a, q1)) : (f <$> d : Dc β) s q = .ok (f a, q1) := by
  show Except.bind (d s q) _ = _
  rw [h]
  rfl
theorem b_inv {α β : Type} {d : Dc α} {f : α → Dc β} {s : ByteArray} {q q' : Nat} {x : β} (h : (d >>= f : Dc β) s q = .ok (x, q')) : ∃ a q1, d s q = .ok (a, q1) ∧ f a s q1 = .ok (x, q') := by
  cases e : d s q with
  | error e' =>
    have z : (d >>= f : Dc β) s q = .error e' := by
      show Except.bind (d s q) _ = _
      rw [e]
      rfl
    rw [z] at h
    cases h
  | ok p =>
    obtain ⟨a, q1⟩ := p
    exact ⟨a, q1, rfl, (b_ok (f := f) e).symm.trans h⟩
theorem m_inv {α β : Type} {d : Dc α} {f : α → β} {s : ByteArray} {q q' : Nat} {x : β} (h : (f <$> d : Dc β) s q = .ok (x, q')) : ∃ a, d s q = .ok (a, q') ∧ x = f a := by
  cases e : d s q with
  | error e' =>
    have z : (f <$> d : Dc β) s q = .error e' := by
      show Except.bind (d s q) _ = _
      rw [e]
      rfl
    rw [z] at h
    cases h
  | ok p =>
    obtain ⟨a, q1⟩ := p
    have z := (m_ok (f := f) e).symm.trans h
    cases z
    exact ⟨a, rfl, rfl⟩
def cov (s c : ByteArray) (p : Nat) : Prop := ∀ i (h : i < s.size), ∃ h' : p + i < c.size, c[p + i]'h' = s[i]'h
def Lc {α : Type} (d d' : Dc α) : Prop := ∀ (s c : ByteArray) (p q : Nat) (x : α) (q' : Nat), cov s c p → d s q = .ok (x, q') → d' c (p + q) = .ok (x, p + q')
theorem lc_pure {α : Type} (x : α) : Lc (pure x : Dc α) (pure x) := by
  intro s c p q y q' _ h
  have z : (Except.ok (x, q) : Except Jvm.ClassFile.DecodeError (α × Nat)) = .ok (y, q') := h
  cases z
  rfl
theorem lc_bind {α β : Type} {d d' : Dc α} {f f' : α → Dc β} (h1 : Lc d d') (h2 : ∀ a, Lc (f a) (f' a)) : Lc (d >>= f : Dc β) (d' >>= f' : Dc β) := by
  intro s c p q y q' hc h
  obtain ⟨a, q1, e1, e2⟩ := b_inv h
  exact (b_ok (h1 s c p q a q1 hc e1)).trans (h2 a s c p q1 y q' hc e2)
theorem lc_map {α β : Type} {d d' : Dc α} {f : α → β} (h1 : Lc d d') : Lc (f <$> d : Dc β) (f <$> d' : Dc β) := by
  intro s c p q y q' hc h
  obtain ⟨a, e1, e2⟩ := m_inv h
  subst e2
  exact m_ok (h1 s c p q a q' hc e1)
theorem u1_ok {s : ByteArray} {q : Nat} (h : q < s.size) : (Jvm.ClassFile.Reader.u1 : Dc Nat) s q = .ok ((s[q]'h).toNat, q + 1) := by
  show (dite (q < s.size) _ _ : Dc Nat) s q = _
  rw [dif_pos h]
  rfl
theorem u1_inv {s : ByteArray} {q b q' : Nat} (h : (Jvm.ClassFile.Reader.u1 : Dc Nat) s q = .ok (b, q')) : ∃ h : q < s.size, b = (s[q]'h).toNat ∧ q' = q + 1 := by
  by_cases e : q < s.size
  · have z := (u1_ok e).symm.trans h
    cases z
    exact ⟨e, rfl, rfl⟩
  · have z : (Jvm.ClassFile.Reader.u1 : Dc Nat) s q = .error (Jvm.ClassFile.DecodeError.truncated q) := by
      show (dite (q < s.size) _ _ : Dc Nat) s q = _
      rw [dif_neg e]
      rfl
    rw [z] at h
    cases h
theorem lc_u1 : Lc (Jvm.ClassFile.Reader.u1 : Dc Nat) Jvm.ClassFile.Reader.u1 := by
  intro s c p q b q' hc h
  obtain ⟨e, rfl, rfl⟩ := u1_inv h
  obtain ⟨e', z⟩ := hc q e
  rw [u1_ok e', z]
  rfl
theorem lc_u2 : Lc (Jvm.ClassFile.Reader.u2 : Dc Nat) Jvm.ClassFile.Reader.u2 := lc_bind lc_u1 (fun _ => lc_bind lc_u1 (fun _ => lc_pure _))
theorem lc_s1 : Lc (Jvm.ClassFile.Reader.s1 : Dc Int) Jvm.ClassFile.Reader.s1 := lc_map lc_u1
theorem lc_s2 : Lc (Jvm.ClassFile.Reader.s2 : Dc Int) Jvm.ClassFile.Reader.s2 := lc_map lc_u2
def LO (b : Nat) : Prop := ∃ d : Dc Instr, (∀ (pc : Nat) (s : ByteArray) (q q1 : Nat), (Jvm.ClassFile.Reader.u1 : Dc Nat) s q = .ok (b, q1) → Jvm.ClassFile.Decoder.instr pc s q = d s q1) ∧ Lc d d
theorem lf_cons {P : Nat → Prop} {a : Nat} {l : List Nat} (h : P a) (h2 : ∀ b ∈ l, P b) : ∀ b ∈ a :: l, P b := List.forall_mem_cons.mpr ⟨h, h2⟩
theorem lo_2 : LO 2 := ⟨pure (.iconst (-1)), fun _ _ _ _ h => b_ok h, lc_pure _⟩
theorem lo_3 : LO 3 := ⟨pure (.iconst 0), fun _ _ _ _ h => b_ok h, lc_pure _⟩
theorem lo_4 : LO 4 := ⟨pure (.iconst 1), fun _ _ _ _ h => b_ok h, lc_pure _⟩
theorem lo_5 : LO 5 := ⟨pure (.iconst 2), fun _ _ _ _ h => b_ok h, lc_pure _⟩
theorem lo_6 : LO 6 := ⟨pure (.iconst 3), fun _ _ _ _ h => b_ok h, lc_pure _⟩
theorem lo_7 : LO 7 := ⟨pure (.iconst 4), fun _ _ _ _ h => b_ok h, lc_pure _⟩
theorem lo_8 : LO 8 := ⟨pure (.iconst 5), fun _ _ _ _ h => b_ok h, lc_pure _⟩
theorem lo_9 : LO 9 := ⟨pure (.lconst 0), fun _ _ _ _ h => b_ok h, lc_pure _⟩
theorem lo_10 : LO 10 := ⟨pure (.lconst 1), fun _ _ _ _ h => b_ok h, lc_pure _⟩
theorem lo_16 : LO 16 := ⟨(do let x ← (Jvm.ClassFile.Reader.s1 : Dc Int); pure (.bipush x)), fun _ _ _ _ h => b_ok h, lc_bind lc_s1 (fun _ => lc_pure _)⟩
theorem lo_17 : LO 17 := ⟨(do let x ← (Jvm.ClassFile.Reader.s2 : Dc Int); pure (.sipush x)), fun _ _ _ _ h => b_ok h, lc_bind lc_s2 (fun _ => lc_pure _)⟩
theorem lo_18 : LO 18 := ⟨(do let x ← (Jvm.ClassFile.Reader.u1 : Dc Nat); pure (.ldc x)), fun _ _ _ _ h => b_ok h, lc_bind lc_u1 (fun _ => lc_pure _)⟩
theorem lo_19 : LO 19 := ⟨(do let x ← (Jvm.ClassFile.Reader.u2 : Dc Nat); pure (.ldc_w x)), fun _ _ _ _ h => b_ok h, lc_bind lc_u2 (fun _ => lc_pure _)⟩
theorem lo_20 : LO 20 := ⟨(do let x ← (Jvm.ClassFile.Reader.u2 : Dc Nat); pure (.ldc2_w x)), fun _ _ _ _ h => b_ok h, lc_bind lc_u2 (fun _ => lc_pure _)⟩
theorem lo_21 : LO 21 := ⟨(do let x ← (Jvm.ClassFile.Reader.u1 : Dc Nat); pure (.iload x)), fun _ _ _ _ h => b_ok h, lc_bind lc_u1 (fun _ => lc_pure _)⟩
theorem lo_22 : LO 22 := ⟨(do let x ← (Jvm.ClassFile.Reader.u1 : Dc Nat); pure (.lload x)), fun _ _ _ _ h => b_ok h, lc_bind lc_u1 (fun _ => lc_pure _)⟩
theorem lo_25 : LO 25 := ⟨(do let x ← (Jvm.ClassFile.Reader.u1 : Dc Nat); pure (.aload x)), fun _ _ _ _ h => b_ok h, lc_bind lc_u1 (fun _ => lc_pure _)⟩
theorem lo_26 : LO 26 := ⟨pure (.iload_n 0), fun _ _ _ _ h => b_ok h, lc_pure _⟩
theorem lo_27 : LO 27 := ⟨pure (.iload_n 1), fun _ _ _ _ h => b_ok h, lc_pure _⟩
theorem lo_28 : LO 28 := ⟨pure (.iload_n 2), fun _ _ _ _ h => b_ok h, lc_pure _⟩
theorem lo_29 : LO 29 := ⟨pure (.iload_n 3), fun _ _ _ _ h => b_ok h, lc_pure _⟩
theorem lo_30 : LO 30 := ⟨pure (.lload_n 0), fun _ _ _ _ h => b_ok h, lc_pure _⟩
theorem lo_31 : LO 31 := ⟨pure (.lload_n 1), fun _ _ _ _ h => b_ok h, lc_pure _⟩
theorem lo_32 : LO 32 := ⟨pure (.lload_n 2), fun _ _ _ _ h => b_ok h, lc_pure _⟩
theorem lo_33 : LO 33 := ⟨pure (.lload_n 3), fun _ _ _ _ h => b_ok h, lc_pure _⟩
theorem lo_42 : LO 42 := ⟨pure (.aload_n 0), fun _ _ _ _ h => b_ok h, lc_pure _⟩
theorem lo_43 : LO 43 := ⟨pure (.aload_n 1), fun _ _ _ _ h => b_ok h, lc_pure _⟩
theorem lo_44 : LO 44 := ⟨pure (.aload_n 2), fun _ _ _ _ h => b_ok h, lc_pure _⟩
theorem lo_45 : LO 45 := ⟨pure (.aload_n 3), fun _ _ _ _ h => b_ok h, lc_pure _⟩
theorem lo_46 : LO 46 := ⟨pure (.iaload), fun _ _ _ _ h => b_ok h, lc_pure _⟩
theorem lo_47 : LO 47 := ⟨pure (.laload), fun _ _ _ _ h => b_ok h, lc_pure _⟩
theorem lo_50 : LO 50 := ⟨pure (.aaload), fun _ _ _ _ h => b_ok h, lc_pure _⟩
theorem lo_51 : LO 51 := ⟨pure (.baload), fun _ _ _ _ h => b_ok h, lc_pure _⟩
theorem lo_54 : LO 54 := ⟨(do let x ← (Jvm.ClassFile.Reader.u1 : Dc Nat); pure (.istore x)), fun _ _ _ _ h => b_ok h, lc_bind lc_u1 (fun _ => lc_pure _)⟩
theorem lo_55 : LO 55 := ⟨(do let x ← (Jvm.ClassFile.Reader.u1 : Dc Nat); pure (.lstore x)), fun _ _ _ _ h => b_ok h, lc_bind lc_u1 (fun _ => lc_pure _)⟩
theorem lo_58 : LO 58 := ⟨(do let x ← (Jvm.ClassFile.Reader.u1 : Dc Nat); pure (.astore x)), fun _ _ _ _ h => b_ok h, lc_bind lc_u1 (fun _ => lc_pure _)⟩
theorem lo_59 : LO 59 := ⟨pure (.istore_n 0), fun _ _ _ _ h => b_ok h, lc_pure _⟩
theorem lo_60 : LO 60 := ⟨pure (.istore_n 1), fun _ _ _ _ h => b_ok h, lc_pure _⟩
theorem lo_61 : LO 61 := ⟨pure (.istore_n 2), fun _ _ _ _ h => b_ok h, lc_pure _⟩
theorem lo_62 : LO 62 := ⟨pure (.istore_n 3), fun _ _ _ _ h => b_ok h, lc_pure _⟩
theorem lo_63 : LO 63 := ⟨pure (.lstore_n 0), fun _ _ _ _ h => b_ok h, lc_pure _⟩
theorem lo_64 : LO 64 := ⟨pure (.lstore_n 1), fun _ _ _ _ h => b_ok h, lc_pure _⟩
theorem lo_65 : LO 65 := ⟨pure (.lstore_n 2), fun _ _ _ _ h => b_ok h, lc_pure _⟩
theorem lo_66 : LO 66 := ⟨pure (.lstore_n 3), fun _ _ _ _ h => b_ok h, lc_pure _⟩
theorem lo_75 : LO 75 := ⟨pure (.astore_n 0), fun _ _ _ _ h => b_ok h, lc_pure _⟩
theorem lo_76 : LO 76 := ⟨pure (.astore_n 1), fun _ _ _ _ h => b_ok h, lc_pure _⟩
theorem lo_77 : LO 77 := ⟨pure (.astore_n 2), fun _ _ _ _ h => b_ok h, lc_pure _⟩
theorem lo_78 : LO 78 := ⟨pure (.astore_n 3), fun _ _ _ _ h => b_ok h, lc_pure _⟩
theorem lo_79 : LO 79 := ⟨pure (.iastore), fun _ _ _ _ h => b_ok h, lc_pure _⟩
theorem lo_80 : LO 80 := ⟨pure (.lastore), fun _ _ _ _ h => b_ok h, lc_pure _⟩
theorem lo_83 : LO 83 := ⟨pure (.aastore), fun _ _ _ _ h => b_ok h, lc_pure _⟩
theorem lo_84 : LO 84 := ⟨pure (.bastore), fun _ _ _ _ h => b_ok h, lc_pure _⟩
theorem lo_87 : LO 87 := ⟨pure (.pop), fun _ _ _ _ h => b_ok h, lc_pure _⟩
theorem lo_89 : LO 89 := ⟨pure (.dup), fun _ _ _ _ h => b_ok h, lc_pure _⟩
theorem lo_92 : LO 92 := ⟨pure (.dup2), fun _ _ _ _ h => b_ok h, lc_pure _⟩
theorem lo_96 : LO 96 := ⟨pure (.iadd), fun _ _ _ _ h => b_ok h, lc_pure _⟩
theorem lo_97 : LO 97 := ⟨pure (.ladd), fun _ _ _ _ h => b_ok h, lc_pure _⟩
theorem lo_100 : LO 100 := ⟨pure (.isub), fun _ _ _ _ h => b_ok h, lc_pure _⟩
theorem lo_101 : LO 101 := ⟨pure (.lsub), fun _ _ _ _ h => b_ok h, lc_pure _⟩
theorem lo_104 : LO 104 := ⟨pure (.imul), fun _ _ _ _ h => b_ok h, lc_pure _⟩
theorem lo_105 : LO 105 := ⟨pure (.lmul), fun _ _ _ _ h => b_ok h, lc_pure _⟩
theorem lo_108 : LO 108 := ⟨pure (.idiv), fun _ _ _ _ h => b_ok h, lc_pure _⟩
theorem lo_109 : LO 109 := ⟨pure (.ldiv), fun _ _ _ _ h => b_ok h, lc_pure _⟩
theorem lo_112 : LO 112 := ⟨pure (.irem), fun _ _ _ _ h => b_ok h, lc_pure _⟩
theorem lo_113 : LO 113 := ⟨pure (.lrem), fun _ _ _ _ h => b_ok h, lc_pure _⟩
theorem lo_116 : LO 116 := ⟨pure (.ineg), fun _ _ _ _ h => b_ok h, lc_pure _⟩
theorem lo_117 : LO 117 := ⟨pure (.lneg), fun _ _ _ _ h => b_ok h, lc_pure _⟩
theorem lo_120 : LO 120 := ⟨pure (.ishl), fun _ _ _ _ h => b_ok h, lc_pure _⟩
theorem lo_122 : LO 122 := ⟨pure (.ishr), fun _ _ _ _ h => b_ok h, lc_pure _⟩
theorem lo_124 : LO 124 := ⟨pure (.iushr), fun _ _ _ _ h => b_ok h, lc_pure _⟩
theorem lo_126 : LO 126 := ⟨pure (.iand), fun _ _ _ _ h => b_ok h, lc_pure _⟩
theorem lo_127 : LO 127 := ⟨pure (.land), fun _ _ _ _ h => b_ok h, lc_pure _⟩
theorem lo_128 : LO 128 := ⟨pure (.ior), fun _ _ _ _ h => b_ok h, lc_pure _⟩
theorem lo_129 : LO 129 := ⟨pure (.lor), fun _ _ _ _ h => b_ok h, lc_pure _⟩
theorem lo_132 : LO 132 := ⟨(do let x ← (Jvm.ClassFile.Reader.u1 : Dc Nat); let y ← (Jvm.ClassFile.Reader.s1 : Dc Int); pure (.iinc x y)), fun _ _ _ _ h => b_ok h, lc_bind lc_u1 (fun _ => lc_bind lc_s1 (fun _ => lc_pure _))⟩
theorem lo_133 : LO 133 := ⟨pure (.i2l), fun _ _ _ _ h => b_ok h, lc_pure _⟩
theorem lo_136 : LO 136 := ⟨pure (.l2i), fun _ _ _ _ h => b_ok h, lc_pure _⟩
theorem lo_145 : LO 145 := ⟨pure (.i2b), fun _ _ _ _ h => b_ok h, lc_pure _⟩
theorem lo_146 : LO 146 := ⟨pure (.i2c), fun _ _ _ _ h => b_ok h, lc_pure _⟩
theorem lo_148 : LO 148 := ⟨pure (.lcmp), fun _ _ _ _ h => b_ok h, lc_pure _⟩
theorem lo_153 : LO 153 := ⟨(do let x ← (Jvm.ClassFile.Reader.s2 : Dc Int); pure (.ifCond .eq x)), fun _ _ _ _ h => b_ok h, lc_bind lc_s2 (fun _ => lc_pure _)⟩
theorem lo_154 : LO 154 := ⟨(do let x ← (Jvm.ClassFile.Reader.s2 : Dc Int); pure (.ifCond .ne x)), fun _ _ _ _ h => b_ok h, lc_bind lc_s2 (fun _ => lc_pure _)⟩
theorem lo_155 : LO 155 := ⟨(do let x ← (Jvm.ClassFile.Reader.s2 : Dc Int); pure (.ifCond .lt x)), fun _ _ _ _ h => b_ok h, lc_bind lc_s2 (fun _ => lc_pure _)⟩
theorem lo_156 : LO 156 := ⟨(do let x ← (Jvm.ClassFile.Reader.s2 : Dc Int); pure (.ifCond .ge x)), fun _ _ _ _ h => b_ok h, lc_bind lc_s2 (fun _ => lc_pure _)⟩
theorem lo_157 : LO 157 := ⟨(do let x ← (Jvm.ClassFile.Reader.s2 : Dc Int); pure (.ifCond .gt x)), fun _ _ _ _ h => b_ok h, lc_bind lc_s2 (fun _ => lc_pure _)⟩
theorem lo_158 : LO 158 := ⟨(do let x ← (Jvm.ClassFile.Reader.s2 : Dc Int); pure (.ifCond .le x)), fun _ _ _ _ h => b_ok h, lc_bind lc_s2 (fun _ => lc_pure _)⟩
theorem lo_159 : LO 159 := ⟨(do let x ← (Jvm.ClassFile.Reader.s2 : Dc Int); pure (.if_icmp .eq x)), fun _ _ _ _ h => b_ok h, lc_bind lc_s2 (fun _ => lc_pure _)⟩
theorem lo_160 : LO 160 := ⟨(do let x ← (Jvm.ClassFile.Reader.s2 : Dc Int); pure (.if_icmp .ne x)), fun _ _ _ _ h => b_ok h, lc_bind lc_s2 (fun _ => lc_pure _)⟩
theorem lo_161 : LO 161 := ⟨(do let x ← (Jvm.ClassFile.Reader.s2 : Dc Int); pure (.if_icmp .lt x)), fun _ _ _ _ h => b_ok h, lc_bind lc_s2 (fun _ => lc_pure _)⟩
theorem lo_162 : LO 162 := ⟨(do let x ← (Jvm.ClassFile.Reader.s2 : Dc Int); pure (.if_icmp .ge x)), fun _ _ _ _ h => b_ok h, lc_bind lc_s2 (fun _ => lc_pure _)⟩
theorem lo_163 : LO 163 := ⟨(do let x ← (Jvm.ClassFile.Reader.s2 : Dc Int); pure (.if_icmp .gt x)), fun _ _ _ _ h => b_ok h, lc_bind lc_s2 (fun _ => lc_pure _)⟩
theorem lo_164 : LO 164 := ⟨(do let x ← (Jvm.ClassFile.Reader.s2 : Dc Int); pure (.if_icmp .le x)), fun _ _ _ _ h => b_ok h, lc_bind lc_s2 (fun _ => lc_pure _)⟩
theorem lo_167 : LO 167 := ⟨(do let x ← (Jvm.ClassFile.Reader.s2 : Dc Int); pure (.goto x)), fun _ _ _ _ h => b_ok h, lc_bind lc_s2 (fun _ => lc_pure _)⟩
theorem lo_172 : LO 172 := ⟨pure (.ireturn), fun _ _ _ _ h => b_ok h, lc_pure _⟩
theorem lo_173 : LO 173 := ⟨pure (.lreturn), fun _ _ _ _ h => b_ok h, lc_pure _⟩
theorem lo_176 : LO 176 := ⟨pure (.areturn), fun _ _ _ _ h => b_ok h, lc_pure _⟩
theorem lo_177 : LO 177 := ⟨pure (.return_), fun _ _ _ _ h => b_ok h, lc_pure _⟩
theorem lo_178 : LO 178 := ⟨(do let x ← (Jvm.ClassFile.Reader.u2 : Dc Nat); pure (.getstatic x)), fun _ _ _ _ h => b_ok h, lc_bind lc_u2 (fun _ => lc_pure _)⟩
theorem lo_179 : LO 179 := ⟨(do let x ← (Jvm.ClassFile.Reader.u2 : Dc Nat); pure (.putstatic x)), fun _ _ _ _ h => b_ok h, lc_bind lc_u2 (fun _ => lc_pure _)⟩
theorem lo_180 : LO 180 := ⟨(do let x ← (Jvm.ClassFile.Reader.u2 : Dc Nat); pure (.getfield x)), fun _ _ _ _ h => b_ok h, lc_bind lc_u2 (fun _ => lc_pure _)⟩
theorem lo_181 : LO 181 := ⟨(do let x ← (Jvm.ClassFile.Reader.u2 : Dc Nat); pure (.putfield x)), fun _ _ _ _ h => b_ok h, lc_bind lc_u2 (fun _ => lc_pure _)⟩
theorem lo_182 : LO 182 := ⟨(do let x ← (Jvm.ClassFile.Reader.u2 : Dc Nat); pure (.invokevirtual x)), fun _ _ _ _ h => b_ok h, lc_bind lc_u2 (fun _ => lc_pure _)⟩
theorem lo_183 : LO 183 := ⟨(do let x ← (Jvm.ClassFile.Reader.u2 : Dc Nat); pure (.invokespecial x)), fun _ _ _ _ h => b_ok h, lc_bind lc_u2 (fun _ => lc_pure _)⟩
theorem lo_184 : LO 184 := ⟨(do let x ← (Jvm.ClassFile.Reader.u2 : Dc Nat); pure (.invokestatic x)), fun _ _ _ _ h => b_ok h, lc_bind lc_u2 (fun _ => lc_pure _)⟩
theorem lo_187 : LO 187 := ⟨(do let x ← (Jvm.ClassFile.Reader.u2 : Dc Nat); pure (.new x)), fun _ _ _ _ h => b_ok h, lc_bind lc_u2 (fun _ => lc_pure _)⟩
theorem lo_189 : LO 189 := ⟨(do let x ← (Jvm.ClassFile.Reader.u2 : Dc Nat); pure (.anewarray x)), fun _ _ _ _ h => b_ok h, lc_bind lc_u2 (fun _ => lc_pure _)⟩
theorem lo_190 : LO 190 := ⟨pure (.arraylength), fun _ _ _ _ h => b_ok h, lc_pure _⟩
theorem lo_198 : LO 198 := ⟨(do let x ← (Jvm.ClassFile.Reader.s2 : Dc Int); pure (.ifnull x)), fun _ _ _ _ h => b_ok h, lc_bind lc_s2 (fun _ => lc_pure _)⟩
theorem lo_199 : LO 199 := ⟨(do let x ← (Jvm.ClassFile.Reader.s2 : Dc Int); pure (.ifnonnull x)), fun _ _ _ _ h => b_ok h, lc_bind lc_s2 (fun _ => lc_pure _)⟩
def lopL : List Nat := [2, 3, 4, 5, 6, 7, 8, 9, 10, 16, 17, 18, 19, 20, 21, 22, 25, 26, 27, 28, 29, 30, 31, 32, 33, 42, 43, 44, 45, 46, 47, 50, 51, 54, 55, 58, 59, 60, 61, 62, 63, 64, 65, 66, 75, 76, 77, 78, 79, 80, 83, 84, 87, 89, 92, 96, 97, 100, 101, 104, 105, 108, 109, 112, 113, 116, 117, 120, 122, 124, 126, 127, 128, 129, 132, 133, 136, 145, 146, 148, 153, 154, 155, 156, 157, 158, 159, 160, 161, 162, 163, 164, 167, 172, 173, 176, 177, 178, 179, 180, 181, 182, 183, 184, 187, 189, 190, 198, 199]
theorem lo_all : ∀ b ∈ lopL, LO b := (lf_cons lo_2 (lf_cons lo_3 (lf_cons lo_4 (lf_cons lo_5 (lf_cons lo_6 (lf_cons lo_7 (lf_cons lo_8 (lf_cons lo_9 (lf_cons lo_10 (lf_cons lo_16 (lf_cons lo_17 (lf_cons lo_18 (lf_cons lo_19 (lf_cons lo_20 (lf_cons lo_21 (lf_cons lo_22 (lf_cons lo_25 (lf_cons lo_26 (lf_cons lo_27 (lf_cons lo_28 (lf_cons lo_29 (lf_cons lo_30 (lf_cons lo_31 (lf_cons lo_32 (lf_cons lo_33 (lf_cons lo_42 (lf_cons lo_43 (lf_cons lo_44 (lf_cons lo_45 (lf_cons lo_46 (lf_cons lo_47 (lf_cons lo_50 (lf_cons lo_51 (lf_cons lo_54 (lf_cons lo_55 (lf_cons lo_58 (lf_cons lo_59 (lf_cons lo_60 (lf_cons lo_61 (lf_cons lo_62 (lf_cons lo_63 (lf_cons lo_64 (lf_cons lo_65 (lf_cons lo_66 (lf_cons lo_75 (lf_cons lo_76 (lf_cons lo_77 (lf_cons lo_78 (lf_cons lo_79 (lf_cons lo_80 (lf_cons lo_83 (lf_cons lo_84 (lf_cons lo_87 (lf_cons lo_89 (lf_cons lo_92 (lf_cons lo_96 (lf_cons lo_97 (lf_cons lo_100 (lf_cons lo_101 (lf_cons lo_104 (lf_cons lo_105 (lf_cons lo_108 (lf_cons lo_109 (lf_cons lo_112 (lf_cons lo_113 (lf_cons lo_116 (lf_cons lo_117 (lf_cons lo_120 (lf_cons lo_122 (lf_cons lo_124 (lf_cons lo_126 (lf_cons lo_127 (lf_cons lo_128 (lf_cons lo_129 (lf_cons lo_132 (lf_cons lo_133 (lf_cons lo_136 (lf_cons lo_145 (lf_cons lo_146 (lf_cons lo_148 (lf_cons lo_153 (lf_cons lo_154 (lf_cons lo_155 (lf_cons lo_156 (lf_cons lo_157 (lf_cons lo_158 (lf_cons lo_159 (lf_cons lo_160 (lf_cons lo_161 (lf_cons lo_162 (lf_cons lo_163 (lf_cons lo_164 (lf_cons lo_167 (lf_cons lo_172 (lf_cons lo_173 (lf_cons lo_176 (lf_cons lo_177 (lf_cons lo_178 (lf_cons lo_179 (lf_cons lo_180 (lf_cons lo_181 (lf_cons lo_182 (lf_cons lo_183 (lf_cons lo_184 (lf_cons lo_187 (lf_cons lo_189 (lf_cons lo_190 (lf_cons lo_198 (lf_cons lo_199 (fun _ h => by cases h))))))))))))))))))))))))))))))))))))))))))))))))))))))))))))))))))))))))))))))))))))))))))))))))))))))))))))))
def lopM : Nat := 1207802568043341404276876002264778488105060741397694793058300
theorem lop_in : ∀ b, b < 256 → Nat.testBit lopM b = true → b ∈ lopL := by decide +kernel
theorem dec_ok {c : ByteArray} {p n : Nat} {i : Instr} (h : Jvm.ClassFile.Decoder.instr p c p = .ok (i, n)) : decode c p = .ok (i, n - p) := by
  show Except.bind (Jvm.ClassFile.Decoder.instr p c p) _ = _
  rw [h]
  rfl
theorem dec_inv {c : ByteArray} {p n : Nat} {i : Instr} (h : decode c p = .ok (i, n)) : ∃ n', Jvm.ClassFile.Decoder.instr p c p = .ok (i, n') ∧ n = n' - p := by
  cases e : Jvm.ClassFile.Decoder.instr p c p with
  | error e' =>
    have z : decode c p = .error e' := by
      show Except.bind (Jvm.ClassFile.Decoder.instr p c p) _ = _
      rw [e]
      rfl
    rw [z] at h
    cases h
  | ok w =>
    obtain ⟨j, m⟩ := w
    have z := (dec_ok e).symm.trans h
    cases z
    exact ⟨m, rfl, rfl⟩
theorem cov_of {c : ByteArray} {p : Nat} {s r : List UInt8} (h : c.data.toList.drop p = s ++ r) : cov ⟨⟨s⟩⟩ c p := by
  obtain ⟨⟨l⟩⟩ := c
  intro i hi
  have hi' : i < s.length := hi
  have hl : i < (l.drop p).length := by
    rw [show l.drop p = s ++ r from h, List.length_append]
    omega
  have hl2 : p + i < l.length := by
    rw [List.length_drop] at hl
    omega
  refine ⟨hl2, ?_⟩
  have e1 : (l.drop p)[i]'hl = l[p + i]'hl2 := List.getElem_drop
  have e2 : (l.drop p)[i]'hl = s[i]'hi' := (List.getElem_of_eq (show l.drop p = s ++ r from h) hl).trans (List.getElem_append_left hi')
  exact e1.symm.trans e2
theorem dec_loc {c : ByteArray} {p : Nat} {b : UInt8} {s r : List UInt8} {i : Instr} {n : Nat} (h : c.data.toList.drop p = (b :: s) ++ r) (hb : Nat.testBit lopM b.toNat = true) (hd : decode ⟨⟨b :: s⟩⟩ 0 = .ok (i, n)) : decode c p = .ok (i, n) := by
  have hc := cov_of h
  obtain ⟨d, h1, h2⟩ := lo_all b.toNat (lop_in b.toNat (UInt8.toNat_lt b) hb)
  obtain ⟨n', e1, e2⟩ := dec_inv hd
  have f1 : (Jvm.ClassFile.Reader.u1 : Dc Nat) (ByteArray.mk ⟨b :: s⟩) 0 = .ok (b.toNat, 1) := u1_ok (s := ByteArray.mk ⟨b :: s⟩) (q := 0) (Nat.succ_pos _)
  have f2 : (Jvm.ClassFile.Reader.u1 : Dc Nat) c p = .ok (b.toNat, p + 1) := lc_u1 _ c p 0 _ _ hc f1
  have g1 : d (ByteArray.mk ⟨b :: s⟩) 1 = .ok (i, n') := (h1 0 _ 0 1 f1).symm.trans e1
  have g2 := h2 _ c p 1 i n' hc g1
  have z := dec_ok ((h1 p c p (p + 1) f2).trans g2)
  rw [z, e2, Nat.add_sub_cancel_left, Nat.sub_zero]
def xtE (c : ByteArray) (b : UInt8) (r : List UInt8) (pc : Nat) (i : Instr) (n : Nat) : Bool :=
  match Nat.testBit lopM b.toNat, n, r with
  | true, 1, _ => decide (decode ⟨⟨[b]⟩⟩ 0 = .ok (i, 1))
  | true, 2, b1 :: _ => decide (decode ⟨⟨[b, b1]⟩⟩ 0 = .ok (i, 2))
  | true, 3, b1 :: b2 :: _ => decide (decode ⟨⟨[b, b1, b2]⟩⟩ 0 = .ok (i, 3))
  | _, _, _ => decide (decode c pc = .ok (i, n))
theorem xtE_ok {c : ByteArray} {b : UInt8} {r : List UInt8} {pc : Nat} {i : Instr} {n : Nat} (h : c.data.toList.drop pc = b :: r) (he : xtE c b r pc i n = true) : decode c pc = .ok (i, n) := by
  unfold xtE at he
  split at he
  · rename_i hb
    exact dec_loc (s := []) h hb (of_decide_eq_true he)
  · rename_i hb
    exact dec_loc (s := [_]) h hb (of_decide_eq_true he)
  · rename_i hb
    exact dec_loc (s := [_, _]) h hb (of_decide_eq_true he)
  · exact of_decide_eq_true he
def xtF (c : ByteArray) : List UInt8 → Nat → Nat → XT → Bool
  | _, _, _, [] => true
  | [], _, _, _ :: _ => false
  | _ :: r, k + 1, p, e :: t => xtF c r k (p + 1) (e :: t)
  | b :: r, 0, p, (pc, i, n) :: t => Nat.beq pc p && (xtE c b r pc i n && xtF c r (n - 1) (p + 1) t)
theorem xtF_ok {c : ByteArray} : ∀ (l : List UInt8) (k p : Nat) (t : XT), l = c.data.toList.drop p → xtF c l k p t = true → xtOK c t = true := by
  intro l
  induction l with
  | nil =>
    intro k p t _ h
    cases t with
    | nil => rfl
    | cons e t => cases k <;> exact absurd h (by simp [xtF])
  | cons b r ih =>
    intro k p t hl h
    have hr : r = c.data.toList.drop (p + 1) := by
      have z := congrArg List.tail hl
      rw [List.tail_drop] at z
      exact z
    cases t with
    | nil => rfl
    | cons e t =>
      cases k with
      | succ k => exact ih k (p + 1) _ hr h
      | zero =>
        obtain ⟨pc, i, n⟩ := e
        have z : (Nat.beq pc p && (xtE c b r pc i n && xtF c r (n - 1) (p + 1) t)) = true := h
        obtain ⟨z1, z23⟩ := Bool.and_eq_true_iff.mp z
        obtain ⟨z2, z3⟩ := Bool.and_eq_true_iff.mp z23
        have zp : pc = p := Nat.eq_of_beq_eq_true z1
        subst zp
        have y := ih (n - 1) (pc + 1) t hr z3
        unfold xtOK at y ⊢
        rw [List.all_cons, y, Bool.and_true]
        exact decide_eq_true (xtE_ok hl.symm z2)
theorem xt_fast {c : ByteArray} {t : XT} (h : xtF c c.data.toList 0 0 t = true) : xtOK c t = true := xtF_ok _ 0 0 t rfl h
theorem xt_sub {c : ByteArray} {t : XT} (h : xtOK c t = true) (n m : Nat) : xtOK c ((t.drop n).take m) = true := by
  unfold xtOK at h ⊢
  rw [List.all_eq_true] at h ⊢
  exact fun e he => h e (List.mem_of_mem_drop (List.mem_of_mem_take he))
end
section
def RJ0 : String := "java/lang/String"
abbrev cJ0_length_8abf5 : ByteArray := prog_18_method_54_code
def yJ0_length_8abf5 : MethodName := ⟨RJ0, "length", "()I"⟩
abbrev cJ0_charAt_5068e : ByteArray := prog_18_method_56_code
def yJ0_charAt_5068e : MethodName := ⟨RJ0, "charAt", "(I)C"⟩
abbrev cJ0_indexOf_0f7a4 : ByteArray := prog_18_method_79_code
def yJ0_indexOf_0f7a4 : MethodName := ⟨RJ0, "indexOf", "(I)I"⟩
abbrev cJ0_indexOf_7cf53 : ByteArray := prog_18_method_80_code
def yJ0_indexOf_7cf53 : MethodName := ⟨RJ0, "indexOf", "(II)I"⟩
abbrev cJ0_coder_7d493 : ByteArray := prog_18_method_152_code
def yJ0_coder_7d493 : MethodName := ⟨RJ0, "coder", "()B"⟩
abbrev cJ0_isLatin1_aae02 : ByteArray := prog_18_method_154_code
def yJ0_isLatin1_aae02 : MethodName := ⟨RJ0, "isLatin1", "()Z"⟩
abbrev cJ0_checkIndex_df160 : ByteArray := prog_18_method_155_code
def yJ0_checkIndex_df160 : MethodName := ⟨RJ0, "checkIndex", "(II)V"⟩
def RJ1 : String := "java/lang/StringLatin1"
abbrev cJ1_charAt_3b067 : ByteArray := prog_19_method_2_code
def yJ1_charAt_3b067 : MethodName := ⟨RJ1, "charAt", "([BI)C"⟩
abbrev cJ1_canEncode_9a6ad : ByteArray := prog_19_method_4_code
def yJ1_canEncode_9a6ad : MethodName := ⟨RJ1, "canEncode", "(I)Z"⟩
abbrev cJ1_indexOf_4cfef : ByteArray := prog_19_method_22_code
def yJ1_indexOf_4cfef : MethodName := ⟨RJ1, "indexOf", "([BIII)I"⟩
abbrev cJ1_indexOfChar_4cfef : ByteArray := prog_19_method_23_code
def yJ1_indexOfChar_4cfef : MethodName := ⟨RJ1, "indexOfChar", "([BIII)I"⟩
def RJ3 : String := "jdk/internal/util/Preconditions"
abbrev cJ3_checkIndex_8e157 : ByteArray := prog_22_method_11_code
def yJ3_checkIndex_8e157 : MethodName := ⟨RJ3, "checkIndex", "(IILjava/util/function/BiFunction;)I"⟩
def mJ0_length_8abf5 : XM := (yJ0_length_8abf5, cJ0_length_8abf5, 1, some Jvm.ClassFile.FieldType.int)
def mJ0_charAt_5068e : XM := (yJ0_charAt_5068e, cJ0_charAt_5068e, 2, some Jvm.ClassFile.FieldType.char)
def mJ0_indexOf_0f7a4 : XM := (yJ0_indexOf_0f7a4, cJ0_indexOf_0f7a4, 2, some Jvm.ClassFile.FieldType.int)
def mJ0_indexOf_7cf53 : XM := (yJ0_indexOf_7cf53, cJ0_indexOf_7cf53, 3, some Jvm.ClassFile.FieldType.int)
def mJ0_coder_7d493 : XM := (yJ0_coder_7d493, cJ0_coder_7d493, 1, some Jvm.ClassFile.FieldType.byte)
def mJ0_isLatin1_aae02 : XM := (yJ0_isLatin1_aae02, cJ0_isLatin1_aae02, 1, some Jvm.ClassFile.FieldType.boolean)
def mJ0_checkIndex_df160 : XM := (yJ0_checkIndex_df160, cJ0_checkIndex_df160, 2, none)
def mJ1_charAt_3b067 : XM := (yJ1_charAt_3b067, cJ1_charAt_3b067, 2, some Jvm.ClassFile.FieldType.char)
def mJ1_canEncode_9a6ad : XM := (yJ1_canEncode_9a6ad, cJ1_canEncode_9a6ad, 1, some Jvm.ClassFile.FieldType.boolean)
def mJ1_indexOf_4cfef : XM := (yJ1_indexOf_4cfef, cJ1_indexOf_4cfef, 4, some Jvm.ClassFile.FieldType.int)
def mJ1_indexOfChar_4cfef : XM := (yJ1_indexOfChar_4cfef, cJ1_indexOfChar_4cfef, 6, some Jvm.ClassFile.FieldType.int)
def mJ3_checkIndex_8e157 : XM := (yJ3_checkIndex_8e157, cJ3_checkIndex_8e157, 3, some Jvm.ClassFile.FieldType.int)
def tJ0_length_8abf5 : XT := [(0, .aload_n 0, 1), (1, .getfield 9, 3), (4, .arraylength, 1), (5, .aload_n 0, 1), (6, .invokevirtual 335, 3), (9, .ishr, 1), (10, .ireturn, 1)]
theorem kJ0_length_8abf5 : xtOK cJ0_length_8abf5 tJ0_length_8abf5 = true := by decide +kernel
def tJ0_charAt_5068e : XT := [(0, .aload_n 0, 1), (1, .invokevirtual 492, 3), (4, .ifCond .eq 12, 3), (7, .aload_n 0, 1), (8, .getfield 9, 3), (11, .iload_n 1, 1), (12, .invokestatic 495, 3), (15, .ireturn, 1), (16, .aload_n 0, 1), (17, .getfield 9, 3), (20, .iload_n 1, 1), (21, .invokestatic 498, 3), (24, .ireturn, 1)]
theorem kJ0_charAt_5068e : xtOK cJ0_charAt_5068e tJ0_charAt_5068e = true := by decide +kernel
def tJ0_indexOf_0f7a4 : XT := [(0, .aload_n 0, 1), (1, .iload_n 1, 1), (2, .iconst 0, 1), (3, .invokevirtual 633, 3), (6, .ireturn, 1)]
theorem kJ0_indexOf_0f7a4 : xtOK cJ0_indexOf_0f7a4 tJ0_indexOf_0f7a4 = true := by decide +kernel
def tJ0_indexOf_7cf53 : XT := [(0, .aload_n 0, 1), (1, .invokevirtual 492, 3), (4, .ifCond .eq 19, 3), (7, .aload_n 0, 1), (8, .getfield 9, 3), (11, .iload_n 1, 1), (12, .iload_n 2, 1), (13, .aload_n 0, 1), (14, .invokevirtual 505, 3), (17, .invokestatic 637, 3), (20, .goto 16, 3), (23, .aload_n 0, 1), (24, .getfield 9, 3), (27, .iload_n 1, 1), (28, .iload_n 2, 1), (29, .aload_n 0, 1), (30, .invokevirtual 505, 3), (33, .invokestatic 640, 3), (36, .ireturn, 1)]
theorem kJ0_indexOf_7cf53 : xtOK cJ0_indexOf_7cf53 tJ0_indexOf_7cf53 = true := by decide +kernel
def tJ0_coder_7d493 : XT := [(0, .getstatic 38, 3), (3, .ifCond .eq 10, 3), (6, .aload_n 0, 1), (7, .getfield 15, 3), (10, .goto 4, 3), (13, .iconst 1, 1), (14, .ireturn, 1)]
theorem kJ0_coder_7d493 : xtOK cJ0_coder_7d493 tJ0_coder_7d493 = true := by decide +kernel
def tJ0_isLatin1_aae02 : XT := [(0, .getstatic 38, 3), (3, .ifCond .eq 14, 3), (6, .aload_n 0, 1), (7, .getfield 15, 3), (10, .ifCond .ne 7, 3), (13, .iconst 1, 1), (14, .goto 4, 3), (17, .iconst 0, 1), (18, .ireturn, 1)]
theorem kJ0_isLatin1_aae02 : xtOK cJ0_isLatin1_aae02 tJ0_isLatin1_aae02 = true := by decide +kernel
def tJ0_checkIndex_df160 : XT := [(0, .iload_n 0, 1), (1, .iload_n 1, 1), (2, .getstatic 1053, 3), (5, .invokestatic 1059, 3), (8, .pop, 1), (9, .return_, 1)]
theorem kJ0_checkIndex_df160 : xtOK cJ0_checkIndex_df160 tJ0_checkIndex_df160 = true := by decide +kernel
def tJ1_charAt_3b067 : XT := [(0, .iload_n 1, 1), (1, .aload_n 0, 1), (2, .arraylength, 1), (3, .invokestatic 9, 3), (6, .aload_n 0, 1), (7, .iload_n 1, 1), (8, .baload, 1), (9, .sipush 255, 3), (12, .iand, 1), (13, .i2c, 1), (14, .ireturn, 1)]
theorem kJ1_charAt_3b067 : xtOK cJ1_charAt_3b067 tJ1_charAt_3b067 = true := by decide +kernel
def tJ1_canEncode_9a6ad : XT := [(0, .iload_n 0, 1), (1, .ifCond .lt 14, 3), (4, .iload_n 0, 1), (5, .sipush 255, 3), (8, .if_icmp .gt 7, 3), (11, .iconst 1, 1), (12, .goto 4, 3), (15, .iconst 0, 1), (16, .ireturn, 1)]
theorem kJ1_canEncode_9a6ad : xtOK cJ1_canEncode_9a6ad tJ1_canEncode_9a6ad = true := by decide +kernel
def tJ1_indexOf_4cfef : XT := [(0, .iload_n 1, 1), (1, .invokestatic 88, 3), (4, .ifCond .ne 5, 3), (7, .iconst (-1), 1), (8, .ireturn, 1), (9, .iload_n 2, 1), (10, .iconst 0, 1), (11, .invokestatic 92, 3), (14, .istore_n 2, 1), (15, .iload_n 3, 1), (16, .aload_n 0, 1), (17, .arraylength, 1), (18, .invokestatic 38, 3), (21, .istore_n 3, 1), (22, .iload_n 2, 1), (23, .iload_n 3, 1), (24, .if_icmp .lt 5, 3), (27, .iconst (-1), 1), (28, .ireturn, 1), (29, .aload_n 0, 1), (30, .iload_n 1, 1), (31, .iload_n 2, 1), (32, .iload_n 3, 1), (33, .invokestatic 95, 3), (36, .ireturn, 1)]
theorem kJ1_indexOf_4cfef : xtOK cJ1_indexOf_4cfef tJ1_indexOf_4cfef = true := by decide +kernel
def tJ1_indexOfChar_4cfef : XT := [(0, .iload_n 1, 1), (1, .i2b, 1), (2, .istore 4, 2), (4, .iload_n 2, 1), (5, .istore 5, 2), (7, .iload 5, 2), (9, .iload_n 3, 1), (10, .if_icmp .ge 21, 3), (13, .aload_n 0, 1), (14, .iload 5, 2), (16, .baload, 1), (17, .iload 4, 2), (19, .if_icmp .ne 6, 3), (22, .iload 5, 2), (24, .ireturn, 1), (25, .iinc 5 1, 3), (28, .goto (-21), 3), (31, .iconst (-1), 1), (32, .ireturn, 1)]
theorem kJ1_indexOfChar_4cfef : xtOK cJ1_indexOfChar_4cfef tJ1_indexOfChar_4cfef = true := by decide +kernel
def tJ3_checkIndex_8e157 : XT := [(0, .iload_n 0, 1), (1, .ifCond .lt 8, 3), (4, .iload_n 0, 1), (5, .iload_n 1, 1), (6, .if_icmp .lt 10, 3), (9, .aload_n 2, 1), (10, .iload_n 0, 1), (11, .iload_n 1, 1), (12, .invokestatic 95, 3), (15, .athrow, 1), (16, .iload_n 0, 1), (17, .ireturn, 1)]
theorem kJ3_checkIndex_8e157 : xtOK cJ3_checkIndex_8e157 tJ3_checkIndex_8e157 = true := by decide +kernel
end
