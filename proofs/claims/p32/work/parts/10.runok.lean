theorem xcn_cl {ci : Nat} {q : vw_C} (h : xn vwCl ci = some q) : q.1 = xcn ci := by
  match ci, h with
  | 0, h => cases h; rfl
  | 1, h => cases h; rfl
  | 2, h => cases h; rfl
  | 3, h => cases h; rfl
  | 4, h => cases h; rfl
  | 5, h => cases h; rfl
  | 6, h => cases h; rfl
  | 7, h => cases h; rfl
  | 8, h => cases h; rfl
  | 9, h => cases h; rfl
  | 10, h => cases h; rfl
  | 11, h => cases h; rfl
  | 12, h => cases h; rfl
  | n + 13, h => simp [xn, vwCl] at h
theorem xok_eq {n : Nat} {ρ ρ' : Nat → Nat} (h : ∀ k : Nat, (k < n ∨ 900000 ≤ k) → ρ' k = ρ k) {v : Value} (hv : xok n v = true) : xv ρ' v = xv ρ v := by
  cases v with
  | ref k =>
    simp only [xok, Bool.or_eq_true, Nat.blt_eq, Nat.ble_eq] at hv
    simp only [xv, h k hv]
  | _ => rfl
theorem xgood_in {M : XM} (h : Cond.code M.1 M.2.1 M.2.2.1 M.2.2.2 ∈ xgt) : GoodIn xgt (xwsM M) := by
  intro w hw
  have hm : w ∈ xgt := by
    rcases List.mem_cons.mp hw with e | e
    · rw [e]; exact h
    · exact e
  exact ⟨hm, good_of_word (List.mem_filter.mp hm).2⟩
section XCALL
variable {p : Program} {l : Launch} {e : Env} {R : Room} {s : State} {m : MethodId} {args : Array Value} {below : List Frame} {meth : Method} {c : Code} {D : XD} {A : Nat → Prop} {al : Bool} {n0 : Nat} {ρ0 : Nat → Nat} {Q : State → Prop} {sc : XS} {d mc ms : Nat} {ini : Bool} {X : XX}
variable {pc : Nat} {lc : List (Option Value)} {st r : List Value} {sh : List XO} {I : XI} {J : XJ} {a b : Nat} {k : XP}
theorem xbud_spec {mc' ms' : Nat} (h : xbud al n0 mc ms lc r sh a b mc' ms' = true) : xcs r ≤ 8 ∧ a + mc' ≤ mc ∧ b + ms' ≤ ms ∧ (mc' = 0 ∨ (al = true ∧ n0 ≤ sh.length ∧ lc.all (xokl sh.length) = true ∧ r.all (xok sh.length) = true)) := by
  simp only [xbud, Bool.and_eq_true, Bool.or_eq_true, Nat.ble_eq] at h
  obtain ⟨⟨⟨h1, h2⟩, h3⟩, h4⟩ := h
  refine ⟨h1, h2, h3, ?_⟩
  rcases h4 with h4 | h4
  · exact Or.inl (Nat.eq_of_beq_eq_true h4)
  · exact Or.inr ⟨h4.1.1.1, h4.1.1.2, h4.1.2, h4.2⟩
theorem xw_call {H : Heap} {locs : List Loc} {ls : Array Slot} {ρ : Nat → Nat} {mc' ms' : Nat} {st0 : List Value} {Rp : XR} {As : Array Value} (G : XG p R s m args meth D A ρ0 sc d mc ms ini X.1) (h1 : xrel al n0 ρ0 ρ) (h3 : va_D A (wl D ρ sh I J)) (h4 : va_S A s.heap H locs) (h5 : xl ρ lc ls) (h6 : ls.size = c.maxLocals) (hb : xbud al n0 mc ms lc r sh a b mc' ms' = true)
    (hr : va_Run p l e R s m args below meth c H locs a b mc' ms' (F0 m pc ls st0) (r.map (xv ρ)) (xQc (!(Nat.beq mc' 0)) D ρ sh I J H.size Rp As) (va_A (wl D ρ sh I J) H.size))
    (hk : ∀ v sh' I' J', Rp v sh' I' J' → XW p l e R s m args below meth c D A al n0 ρ0 Q (pc + 3) lc (v.toList ++ r) sh' I' J' (a + mc') (b + ms')) : W p l e R s m args below meth c H locs a b Q (F0 m pc ls st0) := by
  intro T hT X0
  obtain ⟨v, st₀, t, T', L, e0, X', hL, e1, e2, ⟨⟨w, ρ', sh', I', J', hR, hrel, ho, hP', hD'⟩, hF⟩, hst⟩ := hr T hT X0
  obtain ⟨-, -, -, hb4⟩ := xbud_spec hb
  have ho' : v = w.map (xv ρ') := by injection ho
  have hin : ∀ q, va_A (wl D ρ sh I J) H.size q → A q := by
    intro q hq
    rcases hq with ⟨kk, ee, hq⟩ | hq
    · exact h3.2 kk _ hq
    · exact G.2.2.2.1 q (Nat.le_trans h4.1 hq)
  have hρ : (∀ v ∈ r, xv ρ' v = xv ρ v) ∧ xl ρ' lc ls ∧ xrel al n0 ρ0 ρ' := by
    rcases hb4 with z | ⟨z1, z2, z3, z4⟩
    · have e3 : ρ' = ρ := hrel.1 (by simp [z])
      rw [e3]
      exact ⟨fun _ _ => rfl, h5, h1⟩
    · refine ⟨fun u hu => xok_eq hrel.2 (List.all_eq_true.mp z4 u hu), ⟨h5.1, h5.2.1, fun i u hu => ?_⟩, fun z => absurd (z1.symm.trans z) (by decide), fun q hq => ?_⟩
      · have h7 := List.all_eq_true.mp z3 (some u) (List.mem_of_getElem? hu)
        rw [xok_eq hrel.2 h7]
        exact h5.2.2 i u hu
      · rw [hrel.2 q (by omega)]
        exact h1.2 q hq
  obtain ⟨hρ1, hρ2, hρ3⟩ := hρ
  have hsz : H.size ≤ t.heap.size := by rw [← e0]; exact hF.1
  have hS' : va_S A s.heap T'.heap (locs ++ L) := by
    refine ⟨by rw [e1]; exact Nat.le_trans h4.1 hsz, fun q hq hA => ?_, fun q hq => ?_⟩
    · have h8 := hF.2 q (by rw [e0]; exact Nat.lt_of_lt_of_le hq h4.1) (fun z => hA (hin q z))
      rw [e1, h8, e0]
      exact h4.2.1 q hq hA
    · rcases List.mem_append.mp hq with z | z
      · exact h4.2.2 q z
      · exact hin _ (hL q z)
  obtain ⟨t2, a1, b1⟩ := hk w sh' I' J' hR ρ' T'.heap (locs ++ L) ls hρ3 (by rw [e1]; exact hP') (hD'.weaken (fun _ q _ z => hin q.1 z)) hS' hρ2 h6 T' rfl X'
  refine ⟨t2, hst t2 ?_, b1⟩
  have e5 : (w.toList ++ r).map (xv ρ') = v.toList ++ r.map (xv ρ) := by
    rw [ho', List.map_append]
    congr 1
    · cases w <;> rfl
    · exact List.map_congr_left hρ1
  rw [e5] at a1
  exact a1
theorem xPc_blind {D : XD} {ρ : Nat → Nat} {as : List Value} {sz : Nat} : FrameBlind (xPc D ρ as sh I J sz) := fun a U g mk q => by
  obtain ⟨q0, q1, q2, q3, q4, q5⟩ := q
  exact ⟨q0, q1, q2, va_K.moved (u := U) (U := U.calling g mk a) (Vm.Alike.refl U.vm) q3, q4, xE.blind q5⟩
theorem xPc_pre {H : Heap} {locs : List Loc} {ρ : Nat → Nat} {as : List Value} (G : XG p R s m args meth D A ρ0 sc d mc ms ini X.1) (h1 : xrel al n0 ρ0 ρ) (h2 : va_P D.1 vwCl (wl D ρ sh I J) H) (h3 : va_D A (wl D ρ sh I J)) (h4 : va_S A s.heap H locs) : ∀ U : State, U.heap = H → s.WarmedH U.vm → xPc D ρ as sh I J H.size (as.map (xv ρ)).toArray U := fun U hU hW => ⟨rfl, by rw [hU], by rw [hU]; exact h2, va_K.moved hW.alike G.2.2.2.2.1, h3.weaken (fun _ _ _ _ => trivial), xE.warm (ρ := ρ0) (ρ' := ρ) (A := A) (H := s.heap) (H' := U.heap) hW (by rw [hU]; exact h4.2.1) (fun k hk => h1.2 k (Or.inr hk)) (fun q hq => by
    rcases hq with ⟨kk, ee, hq⟩ | hq
    · exact h3.2 kk _ hq
    · exact G.2.2.2.1 q (Nat.le_trans h4.1 hq)) G.2.2.2.2.2.2.1⟩
theorem xcallB {idx n mc' ms' : Nat} {M : XM} (G : XG p R s m args meth D A ρ0 sc d mc ms ini X.1) (h1 : Cond.code M.1 M.2.1 M.2.2.1 M.2.2.2 ∈ xgt) (h2 : Cond.initialized M.1.cls ∈ xgt) (h3 : Cond.methodLink X.1 idx M.1 ∈ xgt) (h4 : M.1.cls ≠ "java/lang/invoke/MethodHandle" ∧ M.1.cls ≠ "java/lang/invoke/VarHandle") (h5 : (parseMethodDescriptor M.1.desc).map (fun d => d.parameters.length) = some n) (h6 : M.2.2.1 ≤ 40) : CallB R s args X.1 idx M.1 M.2.1 M.2.2.1 M.2.2.2 (xwsM M) (xrm d mc' ms') mc' ms' n := by
  have hRl := G.2.2.2.2.2.2.2.1
  exact callB_of n G.2.2.1 (xgood_in h1) rfl rfl rfl (G.2.2.1 _ h2) (G.2.2.1 _ h3) ⟨h4.1, h4.2, h5⟩ ⟨hRl.1, by show 8 + (M.2.2.1 + 11) + 60 * d ≤ R.locals; omega⟩
end XCALL
