set_option maxRecDepth 100000 in
theorem xxj6 : xxP xxJ6 := xxP_of (by decide +kernel) rfl rfl (fun q h => by simp [xn, vwCl, xxJ6] at h) rfl rfl
-- what the classes' own words say
def xclP (ci : Nat) (q : vw_C) : Prop := q.2.2 = xN ci ∧ (∀ w ∈ u_ws q.1 q.2.1 q.2.2, w ∈ xgt) ∧ (∀ a, a < q.2.2 → ∀ b, b < q.2.2 → a ≠ b → (q.2.1 a).2.1 ≠ (q.2.1 b).2.1) ∧ ∀ k, k < q.2.2 → parseFieldDescriptor (q.2.1 k).2.2.1 = some (xty ci k) ∧ (q.2.1 k).1 = q.1
theorem xws_mem {C : String} {T : u_T} {N : Nat} (js : List Nat) (h : js.map xlook = (u_ws C T N).map some) (hg : (u_ws C T N).all goodWord = true) : ∀ w ∈ u_ws C T N, w ∈ xgt := fun w hw => xgt_of (xlook_all h w hw) (List.all_eq_true.mp hg w hw)
set_option maxRecDepth 100000 in
theorem xcl0 : xclP 0 (RX0, TX0, 8) := ⟨rfl, xws_mem [2105, 2107, 2109, 2111, 2113, 2115, 2117, 2119] rfl (by decide +kernel), nmX0, fun k hk => ⟨tyX0_ok k hk, (show ∀ k, k < 8 → (TX0 k).1 = RX0 by decide +kernel) k hk⟩⟩
