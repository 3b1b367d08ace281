-- ===== control =====
def ajmp (t : XT) (stop : List Nat) (kk : Nat → AS → Bool) (rn : XT → AS → Bool) (tg : Int) (S : AS) : Bool := match tg with
  | .ofNat g => (match xmem stop g with
    | true => kk g S
    | false => (match xdrop t g with
      | [] => false
      | e :: r => (match Nat.beq e.1 g with
        | true => rn (e :: r) S
        | false => false)))
  | _ => false
def anxt (stop : List Nat) (kk : Nat → AS → Bool) (rn : XT → AS → Bool) (es : XT) (g : Nat) (S : AS) : Bool := match es with
  | [] => false
  | e :: r => (match Nat.beq e.1 g with
    | true => (match xmem stop g with
      | true => kk g S
      | false => rn (e :: r) S)
    | false => false)
def cont (o : Option AS) (f : AS → Bool) : Bool := match o with
  | none => true
  | some S => f S
def need (o : Option AS) (f : AS → Bool) : Bool := match o with
  | none => false
  | some S => f S
def aSw (S : AS) (T : List AV) (x : Nat × Int) (df : Int) (f : Int → AS → Bool) : List (Int × Int) → Bool
  | [] => f df (aSt S T)
  | q :: ps => cont (aBr .eq S T x (0, q.1)) (f q.2) && (match aBr .ne S S.2.2.1 x (0, q.1) with
    | none => true
    | some S' => aSw S' T x df f ps)
def envX : AE → AE → Bool
  | _, [] => true
  | a :: E, b :: P => rsub a b && envX E P
  | [], _ :: _ => false
def rvX (E : AE) (a : AV) (g : AG) : Bool := match a, g with
  | .inl q, .inl r => (match iv E q with
    | some w => rsub w r
    | none => false)
  | .inr (.inl ps), .inr (.inl qs) => nsub ps qs
  | .inr (.inr n), .inr (.inr 1) => lgT (.inr (.inr n))
  | _, _ => false
def aEx (C : AC) (posts : List AP) (S : AS) (f : AG → Bool) : Bool := tOk C S.1 S.2.2.2 && posts.any fun P => envX S.1.tail P.1 && f P.2.1 && cOk C S P.2.2
def isVd (g : AG) : Bool := match g with
  | .inr (.inr 9) => true
  | _ => false
def isK (e : Nat) (o : AO) : Bool := match o with
  | .inl q => Nat.beq e (100 + q.1) && Nat.blt q.1 13
  | _ => false
def rtI (rt : Option FieldType) (E : AE) (q : Nat × Int) : Bool := match rt with
  | some .int => true
  | some .boolean => (match iv E q with
    | some w => rsub w (0, 1)
    | none => false)
  | _ => false
def rtA (rt : Option FieldType) : Bool := match rt with
  | some (.object _) => true
  | some (.array _) => true
  | _ => false
def aS (C : AC) (Wm : List Nat) (Wf : Bool) (G : List (Nat × AK)) (dep : Nat) (posts : List AP) (X : XX) (rt : Option FieldType) (t : XT) (stop : List Nat) (kk : Nat → AS → Bool) (rn : XT → AS → Bool) (pc ln : Nat) (es : XT) (i : Jvm.ClassFile.Instr) (S : AS) : Bool := match i with
  | .goto off => Nat.beq ln 3 && ajmp t stop kk rn (pc + off) S
  | .ifCond q off => Nat.beq ln 3 && decide (0 ≤ (pc : Int) + off) && (match S.2.2.1 with
    | .inl x :: T => cont (aBr q S T x (0, 0)) (ajmp t stop kk rn (pc + off)) && cont (aBr (ngC q) S T x (0, 0)) (anxt stop kk rn es (pc + 3))
    | _ => false)
  | .if_icmp q off => Nat.beq ln 3 && decide (0 ≤ (pc : Int) + off) && (match S.2.2.1 with
    | .inl y :: .inl x :: T => cont (aBr q S T x y) (ajmp t stop kk rn (pc + off)) && cont (aBr (ngC q) S T x y) (anxt stop kk rn es (pc + 3))
    | _ => false)
  | .ifnonnull off => Nat.beq ln 3 && (match S.2.2.1 with
    | .inr (.inl _) :: T => ajmp t stop kk rn (pc + off) (aSt S T)
    | .inr (.inr 2) :: T => anxt stop kk rn es (pc + 3) (aSt S T)
    | _ => false)
  | .tableswitch df lo hi offs => (match S.2.2.1 with
    | .inl x :: T => decide (hi + 1 = lo + (offs.size : Int)) && xrg (xtp lo offs.toList) && aSw S T x df (fun o => ajmp t stop kk rn (pc + o)) (xtp lo offs.toList)
    | _ => false)
  | .lookupswitch df ps => (match S.2.2.1 with
    | .inl x :: T => (ps.toList.zip (ps.toList.drop 1)).all (fun (a, next) => a.1 < next.1) && xrg ps.toList && aSw S T x df (fun o => ajmp t stop kk rn (pc + o)) ps.toList
    | _ => false)
  | .ireturn => Nat.beq ln 1 && (match S.2.2.1 with
    | [.inl q] => rtI rt S.1 q && aEx C posts S (rvX S.1 (.inl q))
    | _ => false)
  | .lreturn => Nat.beq ln 1 && decide (rt = some .long) && (match S.2.2.1 with
    | [.inr (.inr n)] => lgT (.inr (.inr n)) && aEx C posts S (rvX S.1 (.inr (.inr n)))
    | _ => false)
  | .areturn => Nat.beq ln 1 && rtA rt && (match S.2.2.1 with
    | [.inr (.inl ps)] => aEx C posts S (rvX S.1 (.inr (.inl ps)))
    | _ => false)
  | .return_ => Nat.beq ln 1 && rt.isNone && (match S.2.2.1 with
    | [] => aEx C posts S isVd
    | _ => false)
  | .invokevirtual idx => Nat.beq ln 3 && (match xlk X.2.2.2.1 idx with
    | some e => (match xn xds e.2.2.1 with
      | some q => (match atk q.2 S.2.2.1 [] with
        | some (as, .inr (.inl ps) :: T) => ((cstN ps && allO C ps (isK e.1)) || cstS ps e.1) && Nat.beq e.2.2.2.1.1 0 && Nat.beq e.2.2.2.1.2 0 && Nat.ble (aCs T) 8 && aCa C Wm Wf G dep S idx (.inr (.inl ps) :: as) T (anxt stop kk rn es (pc + 3))
        | _ => false)
      | none => false)
    | none => false)
  | .invokestatic idx => Nat.beq ln 3 && (match xlk X.2.2.2.1 idx with
    | some e => (match Nat.beq (e.1 / 100) 4 with
      | true => (match xn xds e.2.2.1 with
        | some q => (match atk q.2 S.2.2.1 [] with
          | some (as, T) => Nat.beq e.2.2.2.1.1 0 && Nat.beq e.2.2.2.1.2 0 && Nat.ble (aCs T) 8 && aCa C Wm Wf G dep S idx as T (anxt stop kk rn es (pc + 3))
          | none => false)
        | none => false)
      | false => need (aIn C Wm e.1 S) (anxt stop kk rn es (pc + 3)))
    | none => false)
  | .invokespecial _ => false
  | j => Nat.beq ln (xlen j) && need (aI C Wm Wf X j S) (anxt stop kk rn es (pc + xlen j))
section ABST
variable {C : AC} {Wm : List Nat} {Wf : Bool} {sh0 : List XO} {I0 : XI} {R0 R : List Int} {S S' : AS} {lc : List (Option Value)} {st : List Value} {sh : List XO} {I : XI} {J : XJ} {X : XX} {al : Bool} {n0 mc ms : Nat} {l : Launch} {d : Nat} {t : XT} {stop : List Nat} {Rp : XR} {K : Nat → XP} {kk : Nat → AS → Bool} {rn : XT → AS → Bool} {rn' : XT → XP} {G : List (Nat × AK)} {dep : Nat} {posts : List AP} {rt : Option FieldType} {args : List Value} {Q : XI → Prop}
/-- every way on from there is right -/
def gks (C : AC) (Wm : List Nat) (Wf : Bool) (sh0 : List XO) (I0 : XI) (R0 : List Int) (f : AS → Bool) (k : XP) : Prop := ∀ S, f S = true → gk C Wm Wf sh0 I0 R0 S k
theorem ajmp_ok (hK : ∀ g, gks C Wm Wf sh0 I0 R0 (kk g) (K g)) (hr : ∀ es, gks C Wm Wf sh0 I0 R0 (rn es) (rn' es)) {tg : Int} : gks C Wm Wf sh0 I0 R0 (ajmp t stop kk rn tg) (xjmp t stop K rn' tg) := by
  intro S h R lc st sh I J hg
  unfold ajmp at h
  unfold xjmp
  split at h
  · rename_i g
    dsimp only
    split at h
    · rename_i e
      rw [e]
      exact hK _ _ h _ _ _ _ _ _ hg
    · rename_i e
      rw [e]
      dsimp only
      split at h
      · cases h
      · rename_i e' r he
        rw [he]
        dsimp only
        split at h
        · rename_i e2
          rw [e2]
          exact hr _ _ h _ _ _ _ _ _ hg
        · cases h
  · cases h
theorem anxt_ok (hK : ∀ g, gks C Wm Wf sh0 I0 R0 (kk g) (K g)) (hr : ∀ es, gks C Wm Wf sh0 I0 R0 (rn es) (rn' es)) {es : XT} {g : Nat} : gks C Wm Wf sh0 I0 R0 (anxt stop kk rn es g) (xnxt stop K rn' es g) := by
  intro S h R lc st sh I J hg
  unfold anxt at h
  unfold xnxt
  split at h
  · cases h
  · rename_i e' r
    dsimp only
    split at h
    · rename_i e2
      refine xb_mk e2 ?_
      split at h
      · rename_i e3
        rw [e3]
        exact hK _ _ h _ _ _ _ _ _ hg
      · rename_i e3
        rw [e3]
        exact hr _ _ h _ _ _ _ _ _ hg
    · cases h
theorem cont_ok {o : Option AS} {f : AS → Bool} {k : XP} (hf : gks C Wm Wf sh0 I0 R0 f k) (h : cont o f = true) (hg : ∃ S', o = some S' ∧ ga C Wm Wf sh0 I0 R0 R S' lc st sh I) : k lc st sh I J 0 0 := by
  obtain ⟨S', e, hg⟩ := hg
  rw [e] at h
  exact hf _ h _ _ _ _ _ _ hg
theorem cst_num (h0 : xn R 0 = some 0) {c : Int} {x : Int32} (h : x.toInt = c) : numO R (0, c) x := ⟨0, h0, by rw [h]; simp⟩
theorem aSw_ok {x : Nat × Int} {u : Int32} {T : List AV} {r : List Value} {df : Int} {f : Int → AS → Bool} {jp : Int → XP} (hf : ∀ o, gks C Wm Wf sh0 I0 R0 (f o) (jp o)) : ∀ {ps : List (Int × Int)} {S : AS} {st : List Value}, ga C Wm Wf sh0 I0 R0 R S lc st sh I → stO R T r → numO R x u → xrg ps = true → aSw S T x df f ps = true → xsw u df (fun o => jp o lc r sh I J 0 0) ps
  | [], S, st, hg, hT, hx, hr, h => hf _ _ h _ _ _ _ _ _ (ga_st hg hT)
  | q :: ps, S, st, hg, hT, hx, hr, h => by
    unfold aSw at h
    simp only [Bool.and_eq_true] at h
    unfold xrg at hr
    rw [List.all_cons] at hr
    simp only [Bool.and_eq_true] at hr
    have hq : (Int32.ofInt q.1).toInt = q.1 := of_decide_eq_true hr.1
    have hc : numO R (0, q.1) (Int32.ofInt q.1) := cst_num hg.1.2.1 hq
    refine ⟨fun e => ?_, fun e => ?_⟩
    · exact cont_ok (hf q.2) h.1 (aBr_ok (q := .eq) hg hT hx hc (by rw [e]; exact rfl))
    · obtain ⟨S', e1, hg'⟩ := aBr_ok (q := .ne) hg hg.2.1.2 hx hc (fun z => e (Int32.toInt_inj.mp z))
      have h2 := h.2
      rw [e1] at h2
      exact aSw_ok hf hg' hT hx hr.2 h2
theorem envX_el : ∀ {E P : AE}, envX E P = true → ∀ {i : Nat} {r : Int × Int}, xn P i = some r → ∃ a, xn E i = some a ∧ rsub a r = true
  | a :: E, b :: P, h, 0, r, hr => by
    unfold envX at h
    simp only [Bool.and_eq_true] at h
    cases hr
    exact ⟨a, rfl, h.1⟩
  | a :: E, b :: P, h, i + 1, r, hr => by
    unfold envX at h
    simp only [Bool.and_eq_true] at h
    exact envX_el (E := E) (P := P) h.2 (i := i) hr
  | [], _ :: _, h, _, _, _ => by cases h
theorem xn_tail {α : Type} : ∀ {l : List α} {i : Nat}, xn l.tail i = xn l (i + 1)
  | [], _ => rfl
  | _ :: _, _ => rfl
/-- a way out is one of the told ones -/
def outO (Q : XI → Prop) (C : AC) (Wm : List Nat) (Wf : Bool) (sh0 : List XO) (I0 : XI) (posts : List AP) (args : List Value) (Rp : XR) : Prop := ∀ (v : Option Value) (sh' : List XO) (I' : XI) (J' : XJ), shO C sh' → (Wf = false → sh' = sh0) → ivO C [] I' → Q I' → frO Wm I0 I' → (∃ P, P ∈ posts ∧ pstO args P v I') → Rp v sh' I' J'
theorem aEx_ok {f : AG → Bool} {v : Option Value} (hQ : ∀ I', frO Wm I0 I' → Q I') (hO : outO Q C Wm Wf sh0 I0 posts args Rp) (hA : preO (0 :: numsV args) R0) (h : aEx C posts S f = true) (hg : ga C Wm Wf sh0 I0 R0 R S lc st sh I) (hf : ∀ g, f g = true → rvO g v) : Rp v sh I J := by
  unfold aEx at h
  simp only [Bool.and_eq_true] at h
  obtain ⟨P, hP, h2⟩ := List.any_eq_true.mp h.2
  simp only [Bool.and_eq_true] at h2
  refine hO v sh I J hg.2.2.2.1 hg.2.2.2.2 (tOk_el h.1 hg.1.1 hg.2.2.1.1 hg.2.2.1.2.1) (hQ _ hg.2.2.1.2.2) hg.2.2.1.2.2 ⟨P, hP, fun i r z hr hz => ?_, hf _ h2.1.2, cOk_ok h2.2 hg⟩
  obtain ⟨a, ha, hb⟩ := envX_el h2.1.1 hr
  rw [xn_tail] at ha
  have hz2 : xn R (i + 1) = some z := hg.1.2.2 _ _ (hA (i + 1) z hz)
  exact rsub_el hb (hg.1.1.2 _ _ _ hz2 ha)
theorem rvX_ok {a : AV} {v : Value} {g : AG} (hE : envO R S.1) (ha : avO R a (some v)) (h : rvX S.1 a g = true) : rvO g (some v) := by
  unfold rvX at h
  split at h
  · obtain ⟨x, e, hx⟩ := ha
    cases e
    split at h
    · rename_i w ew
      exact ⟨x, rfl, rsub_el h (iv_ok hE hx ew)⟩
    · cases h
  · obtain ⟨p, hp, e⟩ := ha
    cases e
    exact ⟨p, nsub_el h hp, rfl⟩
  · obtain ⟨x, rfl⟩ := avO_lg ha h
    exact ⟨x, rfl⟩
  · cases h
theorem isK_el {ps : List Nat} {e p : Nat} (hs : shO C sh) (h : allO C ps (isK e) = true) (hp : p ∈ ps) : ∃ o, xn sh p = some (.inl o) ∧ Nat.beq e (100 + o.1) = true ∧ Nat.blt o.1 13 = true := by
  obtain ⟨o, h1, h2⟩ := allO_el h hp
  unfold isK at h2
  split at h2
  · rename_i q
    simp only [Bool.and_eq_true] at h2
    obtain ⟨x, hx, ha⟩ := hs p _ h1
    unfold aoO at ha
    split at ha
    · rename_i a b e2
      cases e2
      rw [ha.1] at h2
      exact ⟨b, hx, h2.1, h2.2⟩
    · rename_i e2
      cases e2
    · exact ha.elim
  · cases h2
theorem xbud_ok {T : List AV} {r : List Value} (hT : stO R T r) (h : Nat.ble (aCs T) 8 = true) : xbud al n0 mc ms lc r sh 0 0 0 0 = true := by
  unfold xbud
  rw [xcs_ble hT h, show Nat.ble (0 + 0) mc = true from Nat.ble_eq.mpr (Nat.zero_le _), show Nat.ble (0 + 0) ms = true from Nat.ble_eq.mpr (Nat.zero_le _)]
  rfl
end ABST
