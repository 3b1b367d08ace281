section DEED
variable {l : Launch} {ru_ ta : Nat} {rs : List XO} {tk : Nat → TK} {N : Nat}
set_option maxRecDepth 100000 in
theorem rd_deed (ht : TSP ta) (hk : TKN tk N) {n : Nat} (hn : 2 ≤ n) (v j0 c : Nat) (hv : 5 ≤ v ∧ v ≤ 13) (I : XI) (J : XJ) (Rp : XR) (hev : EV I tk N) (hat : ATt ta I j0 c) (hj : j0 < N) (q : Nat) (hq24 : q < 24) (e5 : I ta 5 = nI (q + 1)) (hS : ∀ (I' : XI) (j' : Nat), FD ta I I' → (I' 35 7 = I 35 7 ∧ I' 35 8 = I 35 8) → ATt ta I' j' c → j' < N → j0 ≤ j' → deS tk (fmS v) j0 = .inl j' → ND ta q (deN tk (fmS v) j0) I I' → Rp (some (.int 1)) (shH ru_ ta rs) I' J) (hF : ∀ (I' : XI) (f p : Nat), FD ta I I' → I' 35 7 = nI f → I' 35 8 = nI p → 1 ≤ f → deS tk (fmS v) j0 = .inr (f, p) → Rp (some (.int 0)) (shH ru_ ta rs) I' J) : xm l (n + 1) 0 0 mX5_deed [.ref 35, .int (nI v)] (shH ru_ ta rs) I J Rp := by
  have y := List.all_eq_true.mp deT_len (v - 5) (List.mem_range.mpr (by omega))
  rw [show v - 5 + 5 = v by omega, Bool.and_eq_true] at y
  refine xm_ofK 5 (X := xxX5) (t := tX5_deed) (stop := [2]) (ini := false) xx5 pl5 rfl kX5_deed (fun h => by cases h) (Nat.le_of_ble_eq_true rfl) (fun Kk hKk => ?_)
  exact hKk 2 [some (.ref 35), some (.int (nI v)), some (.int (nI 0)), none] [] (shH ru_ ta rs) I J 0 0 (rd_deed_loop ht hk hn v j0 c hv I J Rp hev q hq24 e5 hS hF 3 0 j0 5 I none (by omega) (Nat.blt_eq.mp y.1) (by omega) ⟨fun _ _ _ => rfl, rfl⟩ ⟨rfl, rfl⟩ hat hj (Nat.le_refl _) rfl ⟨fun _ _ => rfl, [], rfl, rfl, fun x hx => absurd hx (Nat.not_lt_zero x)⟩)
end DEED
