-- ===== the reference's next token =====
theorem cell_tx : ∀ q, q ∈ CFc → nmem q.1 TXP = true → q.1 = 67 ∧ q.2.1 < 15 := by decide +kernel
theorem row_tx : ∀ q, q ∈ CFr → nmem q.1 TXP = false := by decide +kernel
theorem iv_TF {I I' : XI} (h : ivO CF [] I) (t : TF I I') : ivO CF [] I' := by
  intro p k hn
  by_cases hp : nmem p TXP = true
  · by_cases hk : p = 67 ∧ k < 15
    · obtain ⟨rfl, hk⟩ := hk
      rw [t.2 k hk]
      exact h 67 k hn
    · have e : cellI CF p k = fr := by
        unfold cellI
        split
        · rename_i q e
          exfalso
          have hm := List.mem_of_find?_eq_some e
          have hq := List.find?_some e
          simp only [Bool.and_eq_true] at hq
          have e1 := Nat.eq_of_beq_eq_true hq.1
          have e2 := Nat.eq_of_beq_eq_true hq.2
          have y := cell_tx q hm (by rw [e1]; exact hp)
          rw [e1] at y
          have e3 : nrm p k = k := by rw [y.1]; rfl
          rw [e2, e3] at y
          exact hk y
        · split
          · rename_i r e
            have y := row_tx (p, r) (xlk_mem e)
            rw [hp] at y
            cases y
          · rfl
      rw [e]
      exact inI_fr _
  · rw [t.1 p (by simpa using hp)]
    exact h p k hn
theorem qq_TF {I I' : XI} (h : QQ I) (t : TF I I') : QQ I' := qq_ok I I' (fun p hp => t.1 p (by
  have y : ∀ p, p ∈ QPl → nmem p TXP = false := by decide
  exact y p hp)) h
def EQT (I I' : XI) : Prop := (∀ p, p ≠ 67 → I' p = I p) ∧ ∀ k, k < 15 ∨ 18 < k → I' 67 k = I 67 k
theorem EQT.rf {I : XI} : EQT I I := ⟨fun _ _ => rfl, fun _ _ => rfl⟩
theorem EQT.tf {I0 I I' : XI} (h : TF I0 I) (e : EQT I I') : TF I0 I' := ⟨fun p hp => by rw [e.1 p (fun z => by subst z; cases hp)]; exact h.1 p hp, fun k hk => by rw [e.2 k (by omega)]; exact h.2 k hk⟩
theorem EQT.u {I I' : XI} {k : Nat} {v : Int32} (h : EQT I I') (h1 : 15 ≤ k) (h2 : k ≤ 18) : EQT I (uI I' 67 k v) := by
  refine ⟨fun p hp => ?_, fun j hj => ?_⟩
  · rw [uI_ne hp]
    exact h.1 p hp
  · rw [uI_atC, if_neg (by omega)]
    exact h.2 j hj
/-- another token: T is the text's length -/
def NX (I I' : XI) (T : Nat) : Prop := EQT I I' ∧ ∃ a a' : Nat, I 67 15 = nI a ∧ I' 67 15 = nI a' ∧ a ≤ a' ∧ a' ≤ T ∧ (I' 67 17 = 0 ∨ a + 1 ≤ a') ∧ (I' 67 17 = 1 → (I' 67 18).toInt ≤ 31)
theorem tx_in (l : Launch) (d : Nat) (v lo hi : Int32) (sh : List XO) (I : XI) (J : XJ) (Rp : XR) (h1 : lo ≤ v → v ≤ hi → Rp (some (.int 1)) sh I J) (h0 : ¬ (lo ≤ v ∧ v ≤ hi) → Rp (some (.int 0)) sh I J) : xm l (d + 1) 0 0 mX12_in [.int v, .int lo, .int hi] sh I J Rp := by
  by_cases c : lo ≤ v ∧ v ≤ hi
  · exact m_in_t l d v lo hi sh I J Rp c.1 c.2 (h1 c.1 c.2)
  · exact m_in_f l d v lo hi sh I J Rp c (h0 c)
def leP (w : Int) (P : AP) : Bool := match P.2.1 with
  | .inl r => decide (r.2 ≤ w)
  | _ => false
theorem le_post {w : Int} {posts : List AP} {as : List Value} {v : Option Value} {I : XI} (h : posts.all (leP w) = true) (hp : ∃ P, P ∈ posts ∧ pstO as P v I) : ∃ r, v = some (.int r) ∧ r.toInt ≤ w := by
  obtain ⟨P, hP, hp⟩ := hp
  have y := List.all_eq_true.mp h P hP
  have z := hp.2.1
  unfold leP at y
  split at y
  · rename_i r e
    rw [e] at z
    obtain ⟨x, hx, h2⟩ := z
    have h3 := h2.2
    have h4 := of_decide_eq_true y
    exact ⟨x, hx, by omega⟩
  · cases y
theorem ctr_at {Q : XI → Prop} {C : AC} {c : AK} {M : XM} (h : ctrO Q C c M) {n : Nat} (hn : c.1 ≤ n) (l : Launch) (sh : List XO) (I : XI) (J : XJ) (as : List Value) (Rp : XR) (h1 : agO c.2.1 as) (h2 : celO c.2.2.2.2.2 I) (h3 : shO C sh) (h4 : ivO C [] I) (h5 : Q I) (h6 : ∀ (v : Option Value) (sh' : List XO) (I' : XI) (J' : XJ), shO C sh' → (c.2.2.2.1 = false → sh' = sh) → ivO C [] I' → Q I' → frO c.2.2.1 I I' → (∃ P, P ∈ c.2.2.2.2.1 ∧ pstO as P v I') → Rp v sh' I' J') : xm l n 0 0 M as sh I J Rp := by
  have y := h l (n - c.1) sh I J as Rp h1 h2 h3 h4 h5 h6
  rw [show n - c.1 + c.1 = n from Nat.sub_add_cancel hn] at y
  exact y
theorem nx_ge {I I' : XI} {T a : Nat} (e14 : I 67 14 = nI T) (q : EQT I I') (e : I' 67 15 = nI a) (h : a = T) : I' 67 14 ≤ I' 67 15 := by
  rw [q.2 14 (by omega), e14, e, h]
  exact Int32.le_refl _
theorem nx_lt {I I' : XI} {T a : Nat} (hT : T ≤ 300) (e14 : I 67 14 = nI T) (q : EQT I I') (e : I' 67 15 = nI a) (h : a < T) : ¬ I' 67 14 ≤ I' 67 15 := by
  rw [q.2 14 (by omega), e14, e]
  exact nI_ge h (by omega)
abbrev nxr (l : Launch) (d : Nat) (ru ta : Nat) (rs : List XO) (J : XJ) (Rp : XR) (n pc : Nat) (lc : List (Option Value)) (I' : XI) : Prop := xrun xxX12 none false false (shH ru ta rs).length 0 0 none l (d + 3) tX12_next [0, 52, 99, 173, 232, 373] Rp n pc lc [] (shH ru ta rs) I' J 0 0
set_option maxRecDepth 100000 in
set_option maxHeartbeats 1000000 in
theorem nx_173 (l : Launch) (d T : Nat) (ru ta : Nat) (rs : List XO) (I : XI) (J : XJ) (Rp : XR) (hs : shO CF (shH ru ta rs)) (hi : ivO CF [] I) (hq : QQ I) (hR : ∀ (I' : XI) (J' : XJ), NX I I' T → Rp none (shH ru ta rs) I' J') (a0 a n : Nat) (e0 : I 67 15 = nI a0) (x : Int32) (L : Int64) (c : Int32) (I' : XI) (q : EQT I I') (e : I' 67 15 = nI a) (h1 : a0 + 1 ≤ a) (h2 : a ≤ T) : nxr l d ru ta rs J Rp (n + 1) 173 [some (.ref 67), some (.int x), some (.long L), none, some (.int c)] I' := by
  have fin : ∀ (r s : Int32) (J' : XJ), r.toInt ≤ 31 → Rp none (shH ru ta rs) (uI (uI I' 67 18 r) 67 17 s) J' := by
    intro r s J' hr
    refine hR _ J' ⟨(q.u (by omega) (by omega)).u (by omega) (by omega), a0, a, e0, ?_, by omega, h2, Or.inr h1, fun _ => ?_⟩
    · rw [uI_atC, uI_atC]
      exact e
    · rw [uI_atC, uI_atC]
      exact hr
  have tI := EQT.tf TF.rf q
  refine xrun_step fun K hK => ?_
  refine And.intro (fun _ => ?_) (fun _ => ?_)
  · refine ctr_at ct_X12_wordOf_0 (Nat.le_trans (Nat.le_of_ble_eq_true rfl : ck_X12_wordOf_0.1 ≤ 3) (by omega)) l _ I' J [.long L] _ trivial (fun e he => by cases he) hs (iv_TF hi tI) (qq_TF hq tI) ?_
    intro v1 sh1 I1 J1 g1 w1 i1 q1 f1 p1
    have e1 := w1 rfl
    subst e1
    have e2 : I1 = I' := funext fun p => f1 p rfl
    subst e2
    obtain ⟨r, rfl, hr⟩ := le_post (w := 31) (by decide) p1
    exact And.intro (fun _ => fin r 1 J1 hr) (fun _ => fin r 4 J1 hr)
  · exact And.intro (fun h => absurd (show (0 : Int32) ≤ -1 from h) (by decide)) (fun _ => fin (-1) 4 J (by decide))
set_option maxRecDepth 100000 in
set_option maxHeartbeats 1000000 in
theorem nx_word (l : Launch) (d T : Nat) (hT : T ≤ 300) (ru ta : Nat) (rs : List XO) (I : XI) (J : XJ) (Rp : XR) (hs : shO CF (shH ru ta rs)) (hi : ivO CF [] I) (hq : QQ I) (hR : ∀ (I' : XI) (J' : XJ), NX I I' T → Rp none (shH ru ta rs) I' J') (a0 b0 : Nat) (e14 : I 67 14 = nI T) (e0 : I 67 15 = nI a0) (hab : a0 ≤ b0) (x : Int32) : ∀ (m n a : Nat) (L : Int64) (c : Int32) (I' : XI), a + m = T → m + 1 < n → EQT I I' → I' 67 15 = nI a → (a0 + 1 ≤ a ∨ (a = b0 ∧ isLet (I 70 b0) ∧ a < T)) → nxr l d ru ta rs J Rp n 99 [some (.ref 67), some (.int x), some (.long L), none, some (.int c)] I' := by
  intro m
  induction m with
  | zero =>
    intro n a L c I' hm hn q e hl
    obtain ⟨n, rfl⟩ : ∃ n', n = n' + 1 + 1 := ⟨n - 2, by omega⟩
    refine xrun_step fun K hK => ?_
    refine And.intro (fun _ => ?_) (fun h => absurd (nx_ge e14 q e (by omega)) h)
    exact hK 173 [some (.ref 67), some (.int x), some (.long L), none, some (.int c)] [] (shH ru ta rs) I' J 0 0 (nx_173 l d T ru ta rs I J Rp hs hi hq hR a0 a n e0 x L c I' q e (by omega) (by omega))
  | succ m ih =>
    intro n a L c I' hm hn q e hl
    obtain ⟨n, rfl⟩ : ∃ n', n = n' + 1 + 1 := ⟨n - 2, by omega⟩
    have v : vp_in (I' 67 15) 300 := by rw [e]; exact vp_in_nI (by omega) (by omega)
    have go : ∀ L', nxr l d ru ta rs J Rp (n + 1) 99 [some (.ref 67), some (.int x), some (.long L'), none, some (.int (c + 1))] (uI I' 67 15 (I' 67 15 + 1)) := by
      intro L'
      refine ih (n + 1) (a + 1) L' (c + 1) _ (by omega) (by omega) (q.u (by omega) (by omega)) ?_ (Or.inl ?_)
      · rw [uI_atC, if_pos rfl, e, nI_1]
      · rcases hl with h | h <;> omega
    refine xrun_step fun K hK => ?_
    refine And.intro (fun h => absurd h (nx_lt hT e14 q e (by omega))) (fun _ => And.intro v ?_)
    refine tx_isLetter l (d + 1) (I' 70 (I' 67 15).toNatClampNeg) _ _ _ _ (fun hlet => ?_) (fun hlet => ?_)
    · refine And.intro (fun h => absurd h (by decide)) (fun _ => ?_)
      refine And.intro (fun _ => ?_) (fun _ => And.intro v ?_)
      · exact hK 99 [some (.ref 67), some (.int x), some (.long L), none, some (.int (c + 1))] [] (shH ru ta rs) (uI I' 67 15 (I' 67 15 + 1)) J 0 0 (go L)
      · exact hK 99 [some (.ref 67), some (.int x), some (.long _), none, some (.int (c + 1))] [] (shH ru ta rs) (uI I' 67 15 (I' 67 15 + 1)) J 0 0 (go _)
    · refine And.intro (fun _ => ?_) (fun h => absurd rfl h)
      have h1 : a0 + 1 ≤ a := by
        rcases hl with h | ⟨h, h2, _⟩
        · exact h
        · exfalso
          rw [e, nI_clamp (by omega), q.1 70 (by decide), h] at hlet
          exact hlet h2
      exact hK 173 [some (.ref 67), some (.int x), some (.long L), none, some (.int c)] [] (shH ru ta rs) I' J 0 0 (nx_173 l d T ru ta rs I J Rp hs hi hq hR a0 a n e0 x L c I' q e h1 (by omega))
set_option maxRecDepth 100000 in
set_option maxHeartbeats 1000000 in
theorem nx_num (l : Launch) (d T : Nat) (hT : T ≤ 300) (ru ta : Nat) (rs : List XO) (I : XI) (J : XJ) (Rp : XR) (hR : ∀ (I' : XI) (J' : XJ), NX I I' T → Rp none (shH ru ta rs) I' J') (a0 b0 : Nat) (e14 : I 67 14 = nI T) (e0 : I 67 15 = nI a0) (hab : a0 ≤ b0) (o1 o2 o3 o4 : Option Value) : ∀ (m n a : Nat) (I' : XI), a + m = T → m < n → EQT I I' → I' 67 15 = nI a → I' 67 17 = 2 → (a0 + 1 ≤ a ∨ (a = b0 ∧ (48 ≤ I 70 b0 ∧ I 70 b0 ≤ 57) ∧ a < T)) → nxr l d ru ta rs J Rp n 232 [some (.ref 67), o1, o2, o3, o4] I' := by
  have fin : ∀ (a : Nat) (I' : XI), EQT I I' → I' 67 15 = nI a → I' 67 17 = 2 → a0 + 1 ≤ a → a ≤ T → Rp none (shH ru ta rs) I' J := by
    intro a I' q e e2 h1 h2
    exact hR I' J ⟨q, a0, a, e0, e, by omega, h2, Or.inr h1, fun z => by rw [e2] at z; exact absurd z (by decide)⟩
  intro m
  induction m with
  | zero =>
    intro n a I' hm hn q e e2 hl
    obtain ⟨n, rfl⟩ : ∃ n', n = n' + 1 := ⟨n - 1, by omega⟩
    refine xrun_step fun K hK => ?_
    exact And.intro (fun _ => fin a I' q e e2 (by omega) (by omega)) (fun h => absurd (nx_ge e14 q e (by omega)) h)
  | succ m ih =>
    intro n a I' hm hn q e e2 hl
    obtain ⟨n, rfl⟩ : ∃ n', n = n' + 1 := ⟨n - 1, by omega⟩
    have v : vp_in (I' 67 15) 300 := by rw [e]; exact vp_in_nI (by omega) (by omega)
    have go : ∀ y, nxr l d ru ta rs J Rp n 232 [some (.ref 67), o1, o2, o3, o4] (uI (uI I' 67 18 y) 67 15 (I' 67 15 + 1)) := by
      intro y
      refine ih n (a + 1) _ (by omega) (by omega) ((q.u (by omega) (by omega)).u (by omega) (by omega)) ?_ ?_ (Or.inl ?_)
      · rw [uI_atC, if_pos rfl, e, nI_1]
      · rw [uI_atC, uI_atC]
        exact e2
      · rcases hl with h | h <;> omega
    refine xrun_step fun K hK => ?_
    refine And.intro (fun h => absurd h (nx_lt hT e14 q e (by omega))) (fun _ => And.intro v ?_)
    refine tx_in l (d + 2) (I' 70 (I' 67 15).toNatClampNeg) 48 57 _ _ _ _ (fun h1 h2 => ?_) (fun h => ?_)
    · refine And.intro (fun h => absurd h (by decide)) (fun _ => ?_)
      refine And.intro (fun _ => And.intro v ?_) (fun _ => ?_)
      · exact hK 232 [some (.ref 67), o1, o2, o3, o4] [] (shH ru ta rs) (uI (uI I' 67 18 _) 67 15 (I' 67 15 + 1)) J 0 0 (go _)
      · exact hK 232 [some (.ref 67), o1, o2, o3, o4] [] (shH ru ta rs) (uI (uI I' 67 18 _) 67 15 (I' 67 15 + 1)) J 0 0 (go _)
    · refine And.intro (fun _ => ?_) (fun h => absurd rfl h)
      have h1 : a0 + 1 ≤ a := by
        rcases hl with y | ⟨y, h2, _⟩
        · exact y
        · exfalso
          rw [e, nI_clamp (by omega), q.1 70 (by decide), y] at h
          exact h h2
      exact fin a I' q e e2 h1 (by omega)
set_option maxRecDepth 100000 in
set_option maxHeartbeats 1000000 in
theorem nx_373 (l : Launch) (d T : Nat) (hT : T ≤ 300) (ru ta : Nat) (rs : List XO) (I : XI) (J : XJ) (Rp : XR) (hR : ∀ (I' : XI) (J' : XJ), NX I I' T → Rp none (shH ru ta rs) I' J') (a0 a : Nat) (e14 : I 67 14 = nI T) (e0 : I 67 15 = nI a0) (h0 : a0 ≤ a) (hlt : a < T) (n : Nat) (hn : 0 < n) (x : Int32) (o2 o3 o4 : Option Value) (I' : XI) (q : EQT I I') (e : I' 67 15 = nI (a + 1)) (hs1 : ¬ I' 67 17 = 1) : nxr l d ru ta rs J Rp n 373 [some (.ref 67), some (.int x), o2, o3, o4] I' := by
  obtain ⟨n, rfl⟩ : ∃ n', n = n' + 1 := ⟨n - 1, by omega⟩
  have end1 : Rp none (shH ru ta rs) I' J := hR I' J ⟨q, a0, a + 1, e0, e, by omega, by omega, Or.inr (by omega), fun z => absurd z hs1⟩
  have fin : ∀ y : Int32, a + 1 < T → Rp none (shH ru ta rs) (uI (uI I' 67 18 y) 67 15 (I' 67 15 + 1)) J := by
    intro y h2
    refine hR _ J ⟨(q.u (by omega) (by omega)).u (by omega) (by omega), a0, a + 2, e0, ?_, by omega, by omega, Or.inr (by omega), fun z => ?_⟩
    · rw [uI_atC, if_pos rfl, e, nI_1]
    · rw [uI_atC, uI_atC, if_neg (by omega), if_neg (by omega)] at z
      exact absurd z hs1
  have up : ¬ I' 67 14 ≤ I' 67 15 → a + 1 < T := by
    intro h
    rcases Nat.lt_or_ge (a + 1) T with y | y
    · exact y
    · exact absurd (nx_ge e14 q e (by omega)) h
  have v : a + 1 < T → vp_in (I' 67 15) 300 := fun h => by rw [e]; exact vp_in_nI (by omega) (by omega)
  refine xrun_step fun K hK => ?_
  refine And.intro (fun _ => ?_) (fun _ => And.intro (fun _ => end1) (fun _ => ?_))
  · exact And.intro (fun _ => end1) (fun h => And.intro (v (up h)) (And.intro (fun _ => end1) (fun _ => And.intro (fun _ => fin 301 (up h)) (fun _ => fin 300 (up h)))))
  · exact And.intro (fun _ => end1) (fun h => And.intro (v (up h)) (And.intro (fun _ => end1) (fun _ => And.intro (fun _ => fin 301 (up h)) (fun _ => fin 300 (up h)))))
set_option maxRecDepth 100000 in
set_option maxHeartbeats 2000000 in
theorem nx_52 (l : Launch) (d T : Nat) (hT : T ≤ 300) (ru ta : Nat) (rs : List XO) (I : XI) (J : XJ) (Rp : XR) (hs : shO CF (shH ru ta rs)) (hi : ivO CF [] I) (hq : QQ I) (hR : ∀ (I' : XI) (J' : XJ), NX I I' T → Rp none (shH ru ta rs) I' J') (a0 : Nat) (e14 : I 67 14 = nI T) (e0 : I 67 15 = nI a0) (a n : Nat) (hn : 304 < n) (o1 o2 o3 o4 : Option Value) (I' : XI) (q : EQT I I') (e : I' 67 15 = nI a) (h0 : a0 ≤ a) (hT2 : a ≤ T) : nxr l d ru ta rs J Rp n 52 [some (.ref 67), o1, o2, o3, o4] I' := by
  obtain ⟨n, rfl⟩ : ∃ n', n = n' + 1 := ⟨n - 1, by omega⟩
  have q1 : EQT I (uI I' 67 16 (I' 67 15)) := q.u (by omega) (by omega)
  have et : I' 67 14 = nI T := by rw [q.2 14 (by omega), e14]
  refine xrun_step fun K hK => ?_
  refine And.intro (fun hne => ?_) (fun heq => ?_)
  · have hlt : a < T := by
      rcases Nat.lt_or_ge a T with h | h
      · exact h
      · exfalso
        refine hne ?_
        show I' 67 15 = I' 67 14
        rw [et, e, show a = T by omega]
    have v : vp_in (I' 67 15) 300 := by rw [e]; exact vp_in_nI (by omega) (by omega)
    have ex : I' 70 (I' 67 15).toNatClampNeg = I 70 a := by rw [e, nI_clamp (by omega), q.1 70 (by decide)]
    have e15 : uI I' 67 16 (I' 67 15) 67 15 = nI a := by
      rw [uI_atC]
      exact e
    refine And.intro v ?_
    refine tx_isLetter l (d + 1) (I' 70 (I' 67 15).toNatClampNeg) _ _ _ _ (fun hlet => ?_) (fun hlet => ?_)
    · refine And.intro (fun h => absurd h (by decide)) (fun _ => ?_)
      rw [ex] at hlet
      exact hK 99 [some (.ref 67), some (.int _), some (.long _), none, some (.int 0)] [] (shH ru ta rs) (uI I' 67 16 (I' 67 15)) J 0 0 (nx_word l d T hT ru ta rs I J Rp hs hi hq hR a0 a e14 e0 h0 _ (T - a) n a _ 0 _ (by omega) (by omega) q1 e15 (Or.inr ⟨rfl, hlet, hlt⟩))
    · refine And.intro (fun _ => ?_) (fun h => absurd rfl h)
      refine tx_in l (d + 2) (I' 70 (I' 67 15).toNatClampNeg) 48 57 _ _ _ _ (fun h1 h2 => ?_) (fun h => ?_)
      · refine And.intro (fun h => absurd h (by decide)) (fun _ => ?_)
        rw [ex] at h1 h2
        refine hK 232 [some (.ref 67), some (.int _), o2, o3, o4] [] (shH ru ta rs) (uI (uI (uI I' 67 16 (I' 67 15)) 67 17 2) 67 18 0) J 0 0 (nx_num l d T hT ru ta rs I J Rp hR a0 a e14 e0 h0 _ _ _ _ (T - a) n a _ (by omega) (by omega) ((q1.u (by omega) (by omega)).u (by omega) (by omega)) ?_ ?_ (Or.inr ⟨rfl, ⟨h1, h2⟩, hlt⟩))
        · rw [uI_atC, uI_atC]
          exact e15
        · rw [uI_atC, uI_atC]
          rfl
      · refine And.intro (fun _ => ?_) (fun h => absurd rfl h)
        have go : ∀ s : Int32, ¬ s = 1 → nxr l d ru ta rs J Rp n 373 [some (.ref 67), some (.int (I' 70 (I' 67 15).toNatClampNeg)), o2, o3, o4] (uI (uI (uI (uI I' 67 16 (I' 67 15)) 67 15 (I' 67 15 + 1)) 67 18 (I' 70 (I' 67 15).toNatClampNeg)) 67 17 s) := by
          intro s h1
          refine nx_373 l d T hT ru ta rs I J Rp hR a0 a e14 e0 h0 hlt n (by omega) _ o2 o3 o4 _ (((q1.u (by omega) (by omega)).u (by omega) (by omega)).u (by omega) (by omega)) ?_ ?_
          · rw [uI_atC, uI_atC, uI_atC, if_neg (by omega), if_neg (by omega), if_pos rfl, e, nI_1]
          · rw [uI_atC, if_pos rfl]
            exact h1
        have at3 := hK 373 [some (.ref 67), some (.int (I' 70 (I' 67 15).toNatClampNeg)), o2, o3, o4] [] (shH ru ta rs) _ J 0 0 (go 3 (by decide))
        have at4 := hK 373 [some (.ref 67), some (.int (I' 70 (I' 67 15).toNatClampNeg)), o2, o3, o4] [] (shH ru ta rs) _ J 0 0 (go 4 (by decide))
        refine tx_in l (d + 2) (I' 70 (I' 67 15).toNatClampNeg) 59 62 _ _ _ _ (fun _ _ => ?_) (fun _ => ?_)
        · exact And.intro (fun _ => at3) (fun h => absurd h (by decide))
        · refine And.intro (fun h => absurd rfl h) (fun _ => ?_)
          refine tx_in l (d + 2) (I' 70 (I' 67 15).toNatClampNeg) 40 45 _ _ _ _ (fun _ _ => ?_) (fun _ => ?_)
          · exact And.intro (fun _ => at3) (fun h => absurd h (by decide))
          · refine And.intro (fun h => absurd rfl h) (fun _ => ?_)
            exact And.intro (fun _ => at3) (fun _ => And.intro (fun _ => at4) (fun _ => at3))
  · have ha : a = T := by
      have h : I' 67 15 = I' 67 14 := heq
      rw [et, e] at h
      exact (nI_eq (by omega) (by omega)).mp h
    refine hR (uI (uI I' 67 16 (I' 67 15)) 67 17 0) J ⟨q1.u (by omega) (by omega), a0, a, e0, ?_, by omega, by omega, Or.inl ?_, fun z => ?_⟩
    · rw [uI_atC, uI_atC]
      exact e
    · rw [uI_atC]
      rfl
    · rw [uI_atC, if_pos rfl] at z
      exact absurd z (by decide)
set_option maxRecDepth 100000 in
set_option maxHeartbeats 1000000 in
theorem nx_0 (l : Launch) (d T : Nat) (hT : T ≤ 300) (ru ta : Nat) (rs : List XO) (I : XI) (J : XJ) (Rp : XR) (hs : shO CF (shH ru ta rs)) (hi : ivO CF [] I) (hq : QQ I) (hR : ∀ (I' : XI) (J' : XJ), NX I I' T → Rp none (shH ru ta rs) I' J') (a0 : Nat) (e14 : I 67 14 = nI T) (e0 : I 67 15 = nI a0) (o1 o2 o3 o4 : Option Value) : ∀ (m n a : Nat) (I' : XI), a + m = T → m + 305 < n → EQT I I' → I' 67 15 = nI a → a0 ≤ a → nxr l d ru ta rs J Rp n 0 [some (.ref 67), o1, o2, o3, o4] I' := by
  intro m
  induction m with
  | zero =>
    intro n a I' hm hn q e h0
    obtain ⟨n, rfl⟩ : ∃ n', n = n' + 1 := ⟨n - 1, by omega⟩
    refine xrun_step fun K hK => ?_
    exact And.intro (fun _ => hK 52 [some (.ref 67), o1, o2, o3, o4] [] (shH ru ta rs) I' J 0 0 (nx_52 l d T hT ru ta rs I J Rp hs hi hq hR a0 e14 e0 a n (by omega) o1 o2 o3 o4 I' q e h0 (by omega))) (fun h => absurd (nx_ge e14 q e (by omega)) h)
  | succ m ih =>
    intro n a I' hm hn q e h0
    obtain ⟨n, rfl⟩ : ∃ n', n = n' + 1 := ⟨n - 1, by omega⟩
    have v : vp_in (I' 67 15) 300 := by rw [e]; exact vp_in_nI (by omega) (by omega)
    have go : nxr l d ru ta rs J Rp n 0 [some (.ref 67), o1, o2, o3, o4] (uI I' 67 15 (I' 67 15 + 1)) := by
      refine ih n (a + 1) _ (by omega) (by omega) (q.u (by omega) (by omega)) ?_ (by omega)
      rw [uI_atC, if_pos rfl, e, nI_1]
    have out := nx_52 l d T hT ru ta rs I J Rp hs hi hq hR a0 e14 e0 a n (by omega) o1 o2 o3 o4 I' q e h0 (by omega)
    refine xrun_step fun K hK => ?_
    have k0 := hK 0 [some (.ref 67), o1, o2, o3, o4] [] (shH ru ta rs) (uI I' 67 15 (I' 67 15 + 1)) J 0 0 go
    have k52 := hK 52 [some (.ref 67), o1, o2, o3, o4] [] (shH ru ta rs) I' J 0 0 out
    refine And.intro (fun _ => k52) (fun _ => And.intro v (And.intro (fun _ => k0) (fun _ => And.intro v (And.intro (fun _ => k52) (fun _ => k0)))))
set_option maxRecDepth 100000 in
theorem tx_next (l : Launch) (d T : Nat) (hT : T ≤ 300) (ru ta : Nat) (rs : List XO) (I : XI) (J : XJ) (Rp : XR) (hs : shO CF (shH ru ta rs)) (hi : ivO CF [] I) (hq : QQ I) (a0 : Nat) (e14 : I 67 14 = nI T) (e0 : I 67 15 = nI a0) (ha : a0 ≤ T) (hR : ∀ (I' : XI) (J' : XJ), NX I I' T → Rp none (shH ru ta rs) I' J') : xm l (d + 4) 0 0 mX12_next [.ref 67] (shH ru ta rs) I J Rp :=
  xm_of (X := xxX12) (t := tX12_next) (stop := [0, 52, 99, 173, 232, 373]) (ini := false) (n := 700) xx12 pl12 rfl kX12_next (fun h => by cases h) (Nat.le_of_ble_eq_true rfl) (nx_0 l d T hT ru ta rs I J Rp hs hi hq hR a0 e14 e0 none none none none (T - a0) 700 a0 I (by omega) (by omega) EQT.rf e0 (Nat.le_refl _))
