-- ===== tables of contracts =====
theorem ctsO_nil {Q : XI → Prop} {C : AC} {X : XX} : ctsO Q C X [] := fun _ h => by cases h
theorem ctsO_cons {Q : XI → Prop} {C : AC} {X : XX} {G : List (Nat × AK)} {idx : Nat} {c : AK} {e : Nat × XM × Nat × (Nat × Nat) × List Nat} (he : xlk X.2.2.2.1 idx = some e) (hc : ctrO Q C c e.2.1) (h : ctsO Q C X G) : ctsO Q C X ((idx, c) :: G) := by
  intro q hq
  rcases List.mem_cons.mp hq with z | z
  · rw [z]
    exact ⟨e, he, hc⟩
  · exact h q z
/-- one contract for many places of the object -/
theorem ctr_uni {Q : XI → Prop} {C : AC} {dep : Nat} {ps : List Nat} {gs : List AG} {mods : List Nat} {wf : Bool} {posts : List AP} {pre : List (Nat × Nat × Int × Int)} {M : XM} (h : ∀ p, p ∈ ps → ∃ (dep' : Nat) (mods' : List Nat), ctrO Q C (dep', .inr (.inl [p]) :: gs, mods', wf, posts, pre) M ∧ dep' ≤ dep ∧ nsub mods' mods = true) : ctrO Q C (dep, .inr (.inl ps) :: gs, mods, wf, posts, pre) M := by
  intro l d sh I J as Rp ha hce hs hi hQ hR
  cases as with
  | nil => cases ha
  | cons v vs =>
    cases v with
    | ref p =>
      obtain ⟨dep', mods', hc, h1, h2⟩ := h p ha.1
      have y := hc l (d + (dep - dep')) sh I J (.ref p :: vs) Rp ⟨List.mem_singleton.mpr rfl, ha.2⟩ hce hs hi hQ (fun v sh' I' J' a1 a2 a3 aQ a4 a5 => hR v sh' I' J' a1 a2 a3 aQ (fun q hq => a4 q ?_) a5)
      · rw [show d + (dep - dep') + dep' = d + dep by omega] at y
        exact y
      · cases z : nmem q mods' with
        | false => rfl
        | true =>
          rw [nmem_of (nsub_el h2 (nmem_el z))] at hq
          cases hq
    | _ => cases ha
