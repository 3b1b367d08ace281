-- ===== the reference's next token =====
theorem cell_tx : ∀ q, q ∈ CFc → nmem q.1 TXP = true → q.1 = 67 ∧ q.2.1 < 15 := by decide +kernel
theorem row_tx : ∀ q, q ∈ CFr → nmem q.1 TXP = false := by decide +kernel
theorem iv_TF {I I' : XI} (h : ivO CF [] I) (t : TF I I') : ivO CF [] I' := by
  intro p k hn
  by_cases hp : nmem p TXP = true
  · by_cases hk : p = 67 ∧ k < 15
    · obtain ⟨rfl, hk⟩ := hk
      rw [t.2 k hk]
      exact h 67 k hn
    · have e : cellI CF p k = fr := by
        unfold cellI
        split
        · rename_i q e
          exfalso
          have hm := List.mem_of_find?_eq_some e
          have hq := List.find?_some e
          simp only [Bool.and_eq_true] at hq
          have e1 := Nat.eq_of_beq_eq_true hq.1
          have e2 := Nat.eq_of_beq_eq_true hq.2
          have y := cell_tx q hm (by rw [e1]; exact hp)
          rw [e1] at y
          have e3 : nrm p k = k := by rw [y.1]; rfl
          rw [e2, e3] at y
          exact hk y
        · split
          · rename_i r e
            have y := row_tx (p, r) (xlk_mem e)
            rw [hp] at y
            cases y
          · rfl
      rw [e]
      exact inI_fr _
  · rw [t.1 p (by simpa using hp)]
    exact h p k hn
theorem qq_TF {I I' : XI} (h : QQ I) (t : TF I I') : QQ I' := qq_ok I I' (fun p hp => t.1 p (by
  have y : ∀ p, p ∈ QPl → nmem p TXP = false := by decide
  exact y p hp)) h
def EQT (I I' : XI) : Prop := (∀ p, p ≠ 67 → I' p = I p) ∧ ∀ k, k < 15 ∨ 18 < k → I' 67 k = I 67 k
theorem EQT.rf {I : XI} : EQT I I := ⟨fun _ _ => rfl, fun _ _ => rfl⟩
theorem EQT.tf {I0 I I' : XI} (h : TF I0 I) (e : EQT I I') : TF I0 I' := ⟨fun p hp => by rw [e.1 p (fun z => by subst z; cases hp)]; exact h.1 p hp, fun k hk => by rw [e.2 k (by omega)]; exact h.2 k hk⟩
theorem EQT.u {I I' : XI} {k : Nat} {v : Int32} (h : EQT I I') (h1 : 15 ≤ k) (h2 : k ≤ 18) : EQT I (uI I' 67 k v) := by
  refine ⟨fun p hp => ?_, fun j hj => ?_⟩
  · rw [uI_ne hp]
    exact h.1 p hp
  · rw [uI_atC, if_neg (by omega)]
    exact h.2 j hj
/-- another token: T is the text's length -/
def NX (I I' : XI) (T : Nat) : Prop := EQT I I' ∧ ∃ a a' : Nat, I 67 15 = nI a ∧ I' 67 15 = nI a' ∧ a ≤ a' ∧ a' ≤ T ∧ (I' 67 17 = 0 ∨ a + 1 ≤ a') ∧ (I' 67 17 = 1 → (I' 67 18).toInt ≤ 31)
theorem tx_in (l : Launch) (d : Nat) (v lo hi : Int32) (sh : List XO) (I : XI) (J : XJ) (Rp : XR) (h1 : lo ≤ v → v ≤ hi → Rp (some (.int 1)) sh I J) (h0 : ¬ (lo ≤ v ∧ v ≤ hi) → Rp (some (.int 0)) sh I J) : xm l (d + 1) 0 0 mX12_in [.int v, .int lo, .int hi] sh I J Rp := by
  by_cases c : lo ≤ v ∧ v ≤ hi
  · exact m_in_t l d v lo hi sh I J Rp c.1 c.2 (h1 c.1 c.2)
  · exact m_in_f l d v lo hi sh I J Rp c (h0 c)
theorem ctr_at {Q : XI → Prop} {C : AC} {c : AK} {M : XM} (h : ctrO Q C c M) {n : Nat} (hn : c.1 ≤ n) (l : Launch) (sh : List XO) (I : XI) (J : XJ) (as : List Value) (Rp : XR) (h1 : agO c.2.1 as) (h2 : celO c.2.2.2.2.2 I) (h3 : shO C sh) (h4 : ivO C [] I) (h5 : Q I) (h6 : ∀ (v : Option Value) (sh' : List XO) (I' : XI) (J' : XJ), shO C sh' → (c.2.2.2.1 = false → sh' = sh) → ivO C [] I' → Q I' → frO c.2.2.1 I I' → (∃ P, P ∈ c.2.2.2.2.1 ∧ pstO as P v I') → Rp v sh' I' J') : xm l n 0 0 M as sh I J Rp := by
  have y := h l (n - c.1) sh I J as Rp h1 h2 h3 h4 h5 h6
  rw [show n - c.1 + c.1 = n from Nat.sub_add_cancel hn] at y
  exact y
theorem nx_ge {I I' : XI} {T a : Nat} (e14 : I 67 14 = nI T) (q : EQT I I') (e : I' 67 15 = nI a) (h : a = T) : I' 67 14 ≤ I' 67 15 := by
  rw [q.2 14 (by omega), e14, e, h]
  exact Int32.le_refl _
theorem nx_lt {I I' : XI} {T a : Nat} (hT : T ≤ 300) (e14 : I 67 14 = nI T) (q : EQT I I') (e : I' 67 15 = nI a) (h : a < T) : ¬ I' 67 14 ≤ I' 67 15 := by
  rw [q.2 14 (by omega), e14, e]
  exact nI_ge h (by omega)
