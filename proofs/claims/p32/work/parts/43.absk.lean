-- ===== the straight instructions are right =====
section ABSI
variable {C : AC} {Wm : List Nat} {Wf : Bool} {sh0 : List XO} {I0 : XI} {R0 R : List Int} {S S' : AS} {lc : List (Option Value)} {st : List Value} {sh : List XO} {I : XI} {J : XJ} {k : XP} {X : XX} {al : Bool} {n0 mc ms : Nat}
/-- what goes on from every state that the abstract one stands for -/
def gk (C : AC) (Wm : List Nat) (Wf : Bool) (sh0 : List XO) (I0 : XI) (R0 : List Int) (S' : AS) (k : XP) : Prop := ∀ (R : List Int) (lc : List (Option Value)) (st : List Value) (sh : List XO) (I : XI) (J : XJ), ga C Wm Wf sh0 I0 R0 R S' lc st sh I → k lc st sh I J 0 0
theorem stO_int {q : Nat × Int} {T : List AV} (h : stO R (.inl q :: T) st) : ∃ x r, st = .int x :: r ∧ numO R q x ∧ stO R T r := by
  cases st with
  | nil => exact h.elim
  | cons v r =>
    obtain ⟨⟨x, e, hx⟩, h2⟩ := h
    cases e
    exact ⟨x, r, rfl, hx, h2⟩
theorem stO_ref {ps : List Nat} {T : List AV} (h : stO R (.inr (.inl ps) :: T) st) : ∃ p r, st = .ref p :: r ∧ p ∈ ps ∧ stO R T r := by
  cases st with
  | nil => exact h.elim
  | cons v r =>
    obtain ⟨⟨x, hx, e⟩, h2⟩ := h
    cases e
    exact ⟨x, r, rfl, hx, h2⟩
theorem avO_lg {a : AV} {v : Value} (h : avO R a (some v)) (hl : lgT a = true) : ∃ x, v = .long x := by
  unfold lgT lgA at hl
  split at hl
  · rename_i n e
    cases e
    simp only [Bool.or_eq_true] at hl
    rcases hl with z | z <;> have z := Nat.eq_of_beq_eq_true z <;> subst z
    · obtain ⟨x, e⟩ := h
      cases e
      exact ⟨x, rfl⟩
    · obtain ⟨x, e, _⟩ := h
      cases e
      exact ⟨x, rfl⟩
  · cases hl
theorem stO_cons {a : AV} {T : List AV} (h : stO R (a :: T) st) : ∃ v r, st = v :: r ∧ avO R a (some v) ∧ stO R T r := by
  cases st with
  | nil => exact h.elim
  | cons v r => exact ⟨v, r, rfl, h.1, h.2⟩
theorem aNum_ok {T : List AV} {w : Option ((Nat × Int) ⊕ (Int × Int))} {x : Int32} {r : List Value} (h : aNum S T w = some S') (hg : ga C Wm Wf sh0 I0 R0 R S lc st sh I) (hT : stO R T r) (hk : gk C Wm Wf sh0 I0 R0 S' k) (hw : ∀ w', w = some w' → numP R w' x) : k lc (.int x :: r) sh I J 0 0 := by
  unfold aNum at h
  split at h
  · cases h
    exact hk _ _ _ _ _ _ (ga_pu hg hT ⟨x, rfl, hw _ rfl⟩)
  · cases h
    exact hk _ _ _ _ _ _ (ga_fr hg hT (hw _ rfl))
  · cases h
theorem ldI_ok {n : Nat} (h : aLdI S n = some S') (hg : ga C Wm Wf sh0 I0 R0 R S lc st sh I) (hk : gk C Wm Wf sh0 I0 R0 S' k) : xli (xn lc n) fun x => k lc (.int x :: st) sh I J 0 0 := by
  unfold aLdI at h
  split at h
  · rename_i q e
    cases h
    obtain ⟨o, h1, x, h2, h3⟩ := hg.2.1.1 n _ e
    rw [h1, h2]
    exact hk _ _ _ _ _ _ (ga_pu hg hg.2.1.2 ⟨x, rfl, h3⟩)
  · cases h
theorem ldA_ok {n : Nat} (h : aLdA S n = some S') (hg : ga C Wm Wf sh0 I0 R0 R S lc st sh I) (hk : gk C Wm Wf sh0 I0 R0 S' k) : xla (xn lc n) fun x => k lc (.ref x :: st) sh I J 0 0 := by
  unfold aLdA at h
  split at h
  · rename_i q e
    cases h
    obtain ⟨o, h1, x, h2, h3⟩ := hg.2.1.1 n _ e
    rw [h1, h3]
    exact hk _ _ _ _ _ _ (ga_pu hg hg.2.1.2 ⟨x, h2, rfl⟩)
  · cases h
theorem ldL_ok {n : Nat} (h : aLdL S n = some S') (hg : ga C Wm Wf sh0 I0 R0 R S lc st sh I) (hk : gk C Wm Wf sh0 I0 R0 S' k) : xll (xn lc n) fun x => k lc (.long x :: st) sh I J 0 0 := by
  unfold aLdL at h
  split at h
  · rename_i e
    cases h
    obtain ⟨o, h1, x, h3⟩ := hg.2.1.1 n _ e
    rw [h1, h3]
    exact hk _ _ _ _ _ _ (ga_pu hg hg.2.1.2 ⟨x, rfl⟩)
  · rename_i e
    cases h
    obtain ⟨o, h1, x, h3, h4⟩ := hg.2.1.1 n _ e
    rw [h1, h3]
    exact hk _ _ _ _ _ _ (ga_pu hg hg.2.1.2 ⟨x, rfl, h4⟩)
  · cases h
theorem sto_ok {T : List AV} {i j : Nat} {a : AV} {v : Value} {r : List Value} (h : aSto S T i j a = some S') (hg : ga C Wm Wf sh0 I0 R0 R S lc st sh I) (hT : stO R T r) (hk : gk C Wm Wf sh0 I0 R0 S' k) (ha : avO R a (some v)) (hc : v.category = 2 ↔ lgA (some a) = true) : xin (xn lc j) (k (sL lc i v) r sh I J 0 0) := by
  unfold aSto at h
  split at h
  · rename_i b e1 e2
    cases h
    obtain ⟨o, h1, _⟩ := hg.2.1.1 j _ e2
    rw [h1]
    exact hk _ _ _ _ _ _ ⟨hg.1, ⟨loO_set hg.2.1.1 e1 ha hc, hT⟩, hg.2.2⟩
  · cases h
theorem stI_ok {n : Nat} (h : aStI S n = some S') (hg : ga C Wm Wf sh0 I0 R0 R S lc st sh I) (hk : gk C Wm Wf sh0 I0 R0 S' k) : xi1 st fun x r => xin (xn lc n) (k (sL lc n (.int x)) r sh I J 0 0) := by
  unfold aStI at h
  split at h
  · rename_i q T e
    have hs := hg.2.1.2
    rw [e] at hs
    obtain ⟨x, r, rfl, hx, hT⟩ := stO_int hs
    exact sto_ok h hg hT hk ⟨x, rfl, hx⟩ ⟨fun z => (by cases z), fun z => (by cases z)⟩
  · cases h
theorem stA_ok {n : Nat} (h : aStA S n = some S') (hg : ga C Wm Wf sh0 I0 R0 R S lc st sh I) (hk : gk C Wm Wf sh0 I0 R0 S' k) : xr1 st fun x r => xin (xn lc n) (k (sL lc n (.ref x)) r sh I J 0 0) := by
  unfold aStA at h
  split at h
  · rename_i ps T e
    have hs := hg.2.1.2
    rw [e] at hs
    obtain ⟨x, r, rfl, hx, hT⟩ := stO_ref hs
    exact sto_ok h hg hT hk ⟨x, hx, rfl⟩ ⟨fun z => (by cases z), fun z => (by cases z)⟩
  · cases h
theorem stL_ok {n : Nat} (h : aStL S n = some S') (hg : ga C Wm Wf sh0 I0 R0 R S lc st sh I) (hk : gk C Wm Wf sh0 I0 R0 S' k) : xl1 st fun x r => xin (xn lc (n + 1)) (k (sL lc n (.long x)) r sh I J 0 0) := by
  unfold aStL at h
  split at h
  · rename_i T e
    have hs := hg.2.1.2
    rw [e] at hs
    obtain ⟨v, r, rfl, ⟨x, ex⟩, hT⟩ := stO_cons hs
    cases ex
    exact sto_ok h hg hT hk ⟨x, rfl⟩ ⟨fun _ => rfl, fun _ => rfl⟩
  · rename_i T e
    have hs := hg.2.1.2
    rw [e] at hs
    obtain ⟨v, r, rfl, ⟨x, ex, hx⟩, hT⟩ := stO_cons hs
    cases ex
    exact sto_ok h hg hT hk ⟨x, rfl, hx⟩ ⟨fun _ => rfl, fun _ => rfl⟩
  · cases h
theorem setN_ok {j : Nat} {w : Option ((Nat × Int) ⊕ (Int × Int))} {x : Int32} (h : aSetN S j w = some S') (hg : ga C Wm Wf sh0 I0 R0 R S lc st sh I) (hk : gk C Wm Wf sh0 I0 R0 S' k) (hw : ∀ w', w = some w' → numP R w' x) : k (sL lc j (.int x)) st sh I J 0 0 := by
  unfold aSetN at h
  split at h
  · have y := sto_ok (J := J) (v := .int x) h hg hg.2.1.2 hk ⟨x, rfl, hw _ rfl⟩ ⟨fun z => (by cases z), fun z => (by cases z)⟩
    unfold xin at y
    split at y
    · exact y
    · exact y.elim
  · rename_i r
    have hx : inI r x.toInt := hw _ rfl
    have hg2 := ga_ext hg hx
    have e : S.1.length = R.length := hg.1.1.1.symm
    have y := sto_ok (J := J) (v := .int x) h hg2 hg2.2.1.2 hk ⟨x, rfl, x.toInt, by rw [e]; exact xn_app_len _ _, by simp⟩ ⟨fun z => (by cases z), fun z => (by cases z)⟩
    unfold xin at y
    split at y
    · exact y
    · exact y.elim
  · cases h
theorem a2_ok {f : Nat × Int → Nat × Int → List AV → Option AS} {g : Int32 → Int32 → List Value → Prop} (h : a2 S f = some S') (hg : ga C Wm Wf sh0 I0 R0 R S lc st sh I) (hf : ∀ q r T x y rest, f q r T = some S' → numO R q x → numO R r y → stO R T rest → g x y rest) : xii st g := by
  unfold a2 at h
  split at h
  · rename_i r q T e
    have hs := hg.2.1.2
    rw [e] at hs
    obtain ⟨y, r1, rfl, hy, hT1⟩ := stO_int hs
    obtain ⟨x, r2, rfl, hx, hT2⟩ := stO_int hT1
    exact hf _ _ _ _ _ _ h hx hy hT2
  · cases h
theorem a1_ok {f : Nat × Int → List AV → Option AS} {g : Int32 → List Value → Prop} (h : a1 S f = some S') (hg : ga C Wm Wf sh0 I0 R0 R S lc st sh I) (hf : ∀ q T x rest, f q T = some S' → numO R q x → stO R T rest → g x rest) : xi1 st g := by
  unfold a1 at h
  split at h
  · rename_i q T e
    have hs := hg.2.1.2
    rw [e] at hs
    obtain ⟨x, r2, rfl, hx, hT2⟩ := stO_int hs
    exact hf _ _ _ _ h hx hT2
  · cases h
theorem l2_ok {f : AV → List AV → Option AS} {g : Int64 → Int64 → List Value → Prop} (h : l2 S f = some S') (hg : ga C Wm Wf sh0 I0 R0 R S lc st sh I) (hf : ∀ b T x y rest, f b T = some S' → avO R b (some (.long y)) → stO R T rest → g x y rest) : xl2 st g := by
  unfold l2 at h
  split at h
  · rename_i b a T e
    have hs := hg.2.1.2
    rw [e] at hs
    split at h
    · rename_i hl
      simp only [Bool.and_eq_true] at hl
      obtain ⟨v, r1, rfl, hv, hT1⟩ := stO_cons hs
      obtain ⟨u, r2, rfl, hu, hT2⟩ := stO_cons hT1
      obtain ⟨y, rfl⟩ := avO_lg hv hl.1
      obtain ⟨x, rfl⟩ := avO_lg hu hl.2
      exact hf _ _ _ _ _ h hv hT2
    · cases h
  · cases h
theorem l1_ok {f : List AV → Option AS} {g : Int64 → List Value → Prop} (h : l1 S f = some S') (hg : ga C Wm Wf sh0 I0 R0 R S lc st sh I) (hf : ∀ T x rest, f T = some S' → stO R T rest → g x rest) : xl1 st g := by
  unfold l1 at h
  split at h
  · rename_i b T e
    have hs := hg.2.1.2
    rw [e] at hs
    split at h
    · rename_i hl
      obtain ⟨v, r1, rfl, hv, hT1⟩ := stO_cons hs
      obtain ⟨y, rfl⟩ := avO_lg hv hl
      exact hf _ _ _ h hT1
    · cases h
  · cases h
end ABSI
