section
def shM : List XO := [.inl (12, [some 68, some 69, some 70, none, none, none, some 71, some 72, some 73, some 74, some 75, some 76, some 77, some 78, none, none, none, none, none, none, none, none, none, some 79, some 80, none, some 81, some 82, none, some 83, none, none, some 84, some 85, some 86, some 87, some 88, none, some 89, some 90, some 91, some 92, some 93, some 94, some 95, some 96, some 97, some 98]), .inr (0, 2200, []), .inr (0, 2200, []), .inr (1, 300, []), .inr (0, 4, []), .inr (0, 96, []), .inr (0, 96, []), .inr (0, 96, []), .inr (0, 96, []), .inr (0, 96, []), .inr (0, 1600, []), .inr (0, 1600, []), .inr (0, 40, []), .inr (0, 41, []), .inr (0, 80, []), .inr (0, 80, []), .inr (0, 40, []), .inr (0, 24, []), .inr (0, 24, []), .inr (0, 24, []), .inr (0, 24, []), .inr (0, 24, []), .inr (0, 400, []), .inr (0, 400, []), .inr (0, 11, []), .inr (2, 200, []), .inr (0, 69, []), .inr (0, 4, []), .inr (0, 4, []), .inr (0, 6, []), .inr (0, 6, []), .inr (0, 6, [])]
def shXM : List XO := [.inl (11, [some 12, some 23, some 26, some 28, some 1, some 3, some 4, none, some 30, some 35, some 18, some 5, none, none, some 6, some 36, some 40, some 41]), .inl (6, [some 2, none, none]), .inr (0, 2139, []), .inr (0, 8, []), .inr (0, 8, []), .inr (3, 4, [some 47, some 52, some 57, some 62]), .inl (1, [some 7, some 8, some 10, some 11, none, none, none, none, none, none]), .inr (0, 69, []), .inl (6, [some 9, none, none]), .inr (0, 2139, []), .inr (0, 8, []), .inr (0, 8, []), .inl (9, [some 13, some 14, some 15, some 16, some 17, none, none, none]), .inr (0, 8, []), .inr (0, 8, []), .inr (0, 8, []), .inr (0, 4, []), .inr (0, 4, []), .inl (8, [some 19, none, some 20, some 21, some 22, none]), .inr (0, 300, []), .inr (0, 5, []), .inr (0, 5, []), .inr (0, 96, []), .inl (2, [some 12, some 18, some 24, some 25]), .inr (0, 11, []), .inr (2, 64, []), .inl (10, [some 27, some 12, some 23]), .inr (0, 69, []), .inl (10, [some 29, some 12, some 23]), .inr (0, 69, []), .inl (7, [some 31, none, some 32, some 33, some 34, none]), .inr (0, 300, []), .inr (0, 301, []), .inr (0, 301, []), .inr (0, 301, []), .inl (5, [some 30, some 18, none, none, none, none, none, none, none]), .inl (3, [some 28, some 37, some 38, some 39, none, none, none, none, none]), .inr (0, 276, []), .inr (0, 4, []), .inr (0, 4, []), .inl (0, [some 23, none, none, none, none, none, none, none]), .inl (4, [some 26, some 42, none, some 43, some 44, some 45, some 46, none]), .inr (0, 6, []), .inr (0, 4, []), .inr (0, 4, []), .inr (0, 6, []), .inr (0, 6, []), .inl (8, [some 48, none, some 49, some 50, some 51, none]), .inr (0, 300, []), .inr (0, 5, []), .inr (0, 5, []), .inr (0, 96, []), .inl (8, [some 53, none, some 54, some 55, some 56, none]), .inr (0, 300, []), .inr (0, 5, []), .inr (0, 5, []), .inr (0, 96, []), .inl (8, [some 58, none, some 59, some 60, some 61, none]), .inr (0, 300, []), .inr (0, 5, []), .inr (0, 5, []), .inr (0, 96, []), .inl (8, [some 63, none, some 64, some 65, some 66, none]), .inr (0, 300, []), .inr (0, 5, []), .inr (0, 5, []), .inr (0, 96, []), .inl (12, [some 68, some 69, some 70, none, none, none, some 71, some 72, some 73, some 74, some 75, some 76, some 77, some 78, none, none, none, none, none, none, none, none, none, some 79, some 80, none, some 81, some 82, none, some 83, none, none, some 84, some 85, some 86, some 87, some 88, none, some 89, some 90, some 91, some 92, some 93, some 94, some 95, some 96, some 97, some 98]), .inr (0, 2200, []), .inr (0, 2200, []), .inr (1, 300, []), .inr (0, 4, []), .inr (0, 96, []), .inr (0, 96, []), .inr (0, 96, []), .inr (0, 96, []), .inr (0, 96, []), .inr (0, 1600, []), .inr (0, 1600, []), .inr (0, 40, []), .inr (0, 41, []), .inr (0, 80, []), .inr (0, 80, []), .inr (0, 40, []), .inr (0, 24, []), .inr (0, 24, []), .inr (0, 24, []), .inr (0, 24, []), .inr (0, 24, []), .inr (0, 400, []), .inr (0, 400, []), .inr (0, 11, []), .inr (2, 200, []), .inr (0, 69, []), .inr (0, 4, []), .inr (0, 4, []), .inr (0, 6, []), .inr (0, 6, []), .inr (0, 6, [])]
def iM0 : XI := zI (zI (zI (zI (zI (zI (zI (zI (zI (zI (zI (zI (zI (zI (zI (zI (zI (zI (zI (uI (uI (zI (zI (zI (zI (iX) 67) 68) 69) 70) 67 4 (-1)) 67 5 (-1)) 71) 72) 73) 74) 75) 76) 77) 78) 79) 80) 81) 82) 83) 84) 85) 86) 87) 88) 89
def iM1 : XI := uI (uI (zI (zI (zI (zI (zI (zI (zI (zI (zI (iM0) 90) 91) 92) 93) 94) 95) 96) 97) 98) 68 4 (-1)) 68 128 83
def iM : XI := iM1
def jM0 : XJ := zJ (zJ (zJ (zJ (zJ (zJ (zJ (zJ (zJ (zJ (zJ (zJ (zJ (zJ (zJ (zJ (zJ (zJ (zJ (zJ (zJ (zJ (zJ (zJ (zJ (jX) 68) 69) 70) 71) 72) 73) 74) 75) 76) 77) 78) 79) 80) 81) 82) 83) 84) 85) 86) 87) 88) 89) 90) 91) 92
def jM1 : XJ := zJ (zJ (zJ (zJ (zJ (zJ (jM0) 93) 94) 95) 96) 97) 98
def jM : XJ := jM1
theorem cp_step (I : XI) (q p n : Nat) (h : q ≠ p) : uI (cI I q p 0 0 n) p n (cI I q p 0 0 n q n) = cI I q p 0 0 (n + 1) := by
  funext r j
  by_cases hr : r = p
  · subst hr
    rw [uI_eq, cI_eq, cI_eq, cI_ne h]
    simp only [upd, va_cpy]
    by_cases hj : j = n
    · subst hj
      simp
    · simp only [if_neg hj]
      by_cases h2 : j < n
      · simp [h2, show j < n + 1 by omega]
      · simp [h2, show ¬ j < n + 1 by omega]
  · rw [uI_ne hr, cI_ne hr, cI_ne hr]
theorem cp_zero (I : XI) (q p : Nat) : cI I q p 0 0 0 = I := by
  funext r j
  by_cases hr : r = p
  · subst hr
    rw [cI_eq]
    simp [va_cpy]
  · rw [cI_ne hr]
set_option maxRecDepth 100000 in
theorem cp1_loop (l : Launch) (d : Nat) (I : XI) (J : XJ) (Rp : XR) (hR : Rp none shXM (cI I 68 69 0 0 2200) J) : ∀ (m k n : Nat), k + m = 2200 → m < n → xrun xxX12 none false false shXM.length 0 0 none l d tX12_copies [2] Rp n 2 [some (.ref 67), some (.int 1), some (.int (nI k))] [] shXM (cI I 68 69 0 0 k) J 0 0 := by
  intro m
  induction m with
  | zero =>
    intro k n hk hn
    obtain ⟨n, rfl⟩ : ∃ n', n = n' + 1 := ⟨n - 1, by omega⟩
    have hk : k = 2200 := by omega
    subst hk
    refine xrun_step fun K hK => ?_
    refine And.intro (fun h => ?_) (fun h => absurd (show (2200 : Int32) ≤ nI 2200 by decide) h)
    exact hR
  | succ m ih =>
    intro k n hk hn
    obtain ⟨n, rfl⟩ : ∃ n', n = n' + 1 := ⟨n - 1, by omega⟩
    refine xrun_step fun K hK => ?_
    refine And.intro (fun h => absurd h ?_) (fun h => ?_)
    · exact fun z => nI_ge (a := k) (b := 2200) (by omega) (by omega) z
    refine And.intro (fun h => absurd h (by decide)) (fun _ => ?_)
    refine And.intro (vp_in_nI (N := 2200) (by omega) (by omega)) ?_
    refine And.intro (vp_in_nI (N := 2200) (by omega) (by omega)) ?_
    refine hK 2 [some (.ref 67), some (.int 1), some (.int (nI k + 1))] [] shXM (uI (cI I 68 69 0 0 k) 69 (nI k).toNatClampNeg (cI I 68 69 0 0 k 68 (nI k).toNatClampNeg)) J 0 0 ?_
    rw [nI_1, nI_clamp (by omega), cp_step I 68 69 k (by omega)]
    exact ih (k + 1) n (by omega) (by omega)
set_option maxRecDepth 100000 in
theorem m_copies1 (l : Launch) (d : Nat) (I : XI) (J : XJ) (Rp : XR) (hR : Rp none shXM (cI I 68 69 0 0 2200) J) : xm l (d + 1) 0 0 mX12_copies [.ref 67, .int 1] shXM I J Rp := by
  refine xm_ofK 2201 (X := xxX12) (t := tX12_copies) (stop := [2]) (ini := false) xx12 pl12 rfl kX12_copies (fun h => by cases h) (Nat.le_of_ble_eq_true rfl) (fun K hK => ?_)
  have h := cp1_loop l d I J Rp hR 2200 0 2201 (by omega) (by omega)
  rw [cp_zero] at h
  exact hK _ _ _ _ _ _ _ _ h

set_option maxRecDepth 100000 in
set_option maxHeartbeats 4000000 in
theorem ctor_m (l : Launch) (d : Nat) (Rp : XR) (h : Rp none shXM (cI iM 68 69 0 0 2200) jM) : xm l (d + 2) 31 9891 mX12_init [.ref 67] (shCX ++ [.inl (12, List.replicate 48 none)]) (zI iX 67) jX Rp := by
  refine xm_of (X := xxX12) (t := tX12_init) (stop := []) (n := 1) (ini := true) xx12 pl12 rfl kX12_init (fun _ => rfl) (Nat.le_of_ble_eq_true rfl) ?_
  refine And.intro (vp_b (by decide +kernel)) ?_
  refine And.intro (vp_b (by decide +kernel)) ?_
  refine m_copies1 _ _ iM jM _ ?_
  exact h
end
section
-- ===== the state behind both constructors keeps what is told =====
theorem cz0 : ∀ q, q ∈ CFc → q.2.2.1 ≤ 0 ∧ 0 ≤ q.2.2.2 := by decide +kernel
theorem rz0 : ∀ q, q ∈ CFr → q.2.1 ≤ 0 ∧ 0 ≤ q.2.2 := by decide +kernel
theorem cell_0 (p k : Nat) : inI (cellI CF p k) 0 := by
  unfold cellI
  split
  · rename_i q e
    exact cz0 q (List.mem_of_find?_eq_some e)
  · split
    · rename_i r e
      exact rz0 (p, r) (xlk_mem e)
    · exact ⟨by decide, by decide⟩
def inB (r : Int × Int) (z : Int) : Bool := decide (r.1 ≤ z) && decide (z ≤ r.2)
theorem inB_el {r : Int × Int} {z : Int} (h : inB r z = true) : inI r z := by
  unfold inB at h
  simp only [Bool.and_eq_true, decide_eq_true_eq] at h
  exact h
theorem iv_z : ivO CF [] (fun _ _ => 0) := fun p k _ => by
  show inI _ (0 : Int32).toInt
  rw [i32_0]
  exact cell_0 p k
theorem iv_zI {I : XI} {p : Nat} (h : ivO CF [] I) : ivO CF [] (zI I p) := by
  intro q k hn
  by_cases e : q = p
  · subst e
    rw [zI_eq]
    show inI _ (0 : Int32).toInt
    rw [i32_0]
    exact cell_0 q k
  · rw [zI_ne e]
    exact h q k hn
theorem iv_uI {I : XI} {p k : Nat} {v : Int32} (h : ivO CF [] I) (hv : inB (cellI CF p k) v.toInt = true) : ivO CF [] (uI I p k v) := by
  intro q j hn
  rw [uI_atA]
  by_cases e : q = p ∧ j = k
  · rw [if_pos e, e.1, e.2]
    exact inB_el hv
  · rw [if_neg e]
    exact h q j hn
theorem iv_cI {I : XI} (h : ivO CF [] I) : ivO CF [] (cI I 68 69 0 0 2200) := by
  intro q k hn
  by_cases e : q = 69
  · subst e
    rw [cI_eq]
    simp only [va_cpy]
    by_cases hk : 0 ≤ k ∧ k < 0 + 2200
    · rw [if_pos hk, show 0 + (k - 0) = k by omega, cell_6 k]
      exact h 68 k rfl
    · rw [if_neg hk]
      exact h 69 k rfl
  · rw [cI_ne e]
    exact h q k hn
set_option maxRecDepth 100000 in
theorem iv_iX0 : ivO CF [] iX0 := iv_uI (iv_uI (iv_uI (iv_uI (iv_uI (iv_uI (iv_uI (iv_uI (iv_uI (iv_uI (iv_uI (iv_uI (iv_uI (iv_zI (iv_zI (iv_uI (iv_uI (iv_uI (iv_zI (iv_zI (iv_uI (iv_uI (iv_zI (iv_zI (iv_zI (iv_z)))) (by decide +kernel)) (by decide +kernel)))) (by decide +kernel)) (by decide +kernel)) (by decide +kernel)))) (by decide +kernel)) (by decide +kernel)) (by decide +kernel)) (by decide +kernel)) (by decide +kernel)) (by decide +kernel)) (by decide +kernel)) (by decide +kernel)) (by decide +kernel)) (by decide +kernel)) (by decide +kernel)) (by decide +kernel)) (by decide +kernel)
set_option maxRecDepth 100000 in
theorem iv_iX1 : ivO CF [] iX1 := iv_zI (iv_uI (iv_zI (iv_zI (iv_uI (iv_uI (iv_uI (iv_zI (iv_zI (iv_zI (iv_zI (iv_zI (iv_zI (iv_uI (iv_uI (iv_uI (iv_uI (iv_uI (iv_uI (iv_zI (iv_zI (iv_uI (iv_uI (iv_zI (iv_zI (iv_iX0))) (by decide +kernel)) (by decide +kernel)))) (by decide +kernel)) (by decide +kernel)) (by decide +kernel)) (by decide +kernel)) (by decide +kernel)) (by decide +kernel)))))))) (by decide +kernel)) (by decide +kernel)) (by decide +kernel)))) (by decide +kernel))
set_option maxRecDepth 100000 in
theorem iv_iX2 : ivO CF [] iX2 := iv_uI (iv_uI (iv_zI (iv_zI (iv_uI (iv_uI (iv_uI (iv_uI (iv_uI (iv_uI (iv_uI (iv_uI (iv_uI (iv_uI (iv_uI (iv_uI (iv_uI (iv_zI (iv_zI (iv_zI (iv_zI (iv_zI (iv_uI (iv_zI (iv_zI (iv_iX1))) (by decide +kernel))))))) (by decide +kernel)) (by decide +kernel)) (by decide +kernel)) (by decide +kernel)) (by decide +kernel)) (by decide +kernel)) (by decide +kernel)) (by decide +kernel)) (by decide +kernel)) (by decide +kernel)) (by decide +kernel)) (by decide +kernel)) (by decide +kernel)))) (by decide +kernel)) (by decide +kernel)
set_option maxRecDepth 100000 in
theorem iv_iX3 : ivO CF [] iX3 := iv_uI (iv_uI (iv_uI (iv_uI (iv_uI (iv_uI (iv_zI (iv_uI (iv_zI (iv_zI (iv_zI (iv_uI (iv_zI (iv_zI (iv_uI (iv_uI (iv_uI (iv_uI (iv_uI (iv_uI (iv_uI (iv_uI (iv_uI (iv_uI (iv_uI (iv_iX2) (by decide +kernel)) (by decide +kernel)) (by decide +kernel)) (by decide +kernel)) (by decide +kernel)) (by decide +kernel)) (by decide +kernel)) (by decide +kernel)) (by decide +kernel)) (by decide +kernel)) (by decide +kernel)))) (by decide +kernel))))) (by decide +kernel))) (by decide +kernel)) (by decide +kernel)) (by decide +kernel)) (by decide +kernel)) (by decide +kernel)) (by decide +kernel)
set_option maxRecDepth 100000 in
theorem iv_iX4 : ivO CF [] iX4 := iv_zI (iv_zI (iv_zI (iv_zI (iv_uI (iv_zI (iv_zI (iv_uI (iv_uI (iv_uI (iv_uI (iv_uI (iv_uI (iv_uI (iv_zI (iv_uI (iv_uI (iv_uI (iv_uI (iv_uI (iv_zI (iv_zI (iv_zI (iv_zI (iv_uI (iv_iX3) (by decide +kernel)))))) (by decide +kernel)) (by decide +kernel)) (by decide +kernel)) (by decide +kernel)) (by decide +kernel))) (by decide +kernel)) (by decide +kernel)) (by decide +kernel)) (by decide +kernel)) (by decide +kernel)) (by decide +kernel)) (by decide +kernel)))) (by decide +kernel)))))
set_option maxRecDepth 100000 in
theorem iv_iX5 : ivO CF [] iX5 := iv_uI (iv_zI (iv_zI (iv_uI (iv_zI (iv_zI (iv_zI (iv_uI (iv_zI (iv_zI (iv_uI (iv_zI (iv_zI (iv_zI (iv_uI (iv_zI (iv_zI (iv_uI (iv_zI (iv_zI (iv_zI (iv_uI (iv_zI (iv_zI (iv_uI (iv_iX4) (by decide +kernel)))) (by decide +kernel))))) (by decide +kernel)))) (by decide +kernel))))) (by decide +kernel)))) (by decide +kernel))))) (by decide +kernel)))) (by decide +kernel)
set_option maxRecDepth 100000 in
theorem iv_iX6 : ivO CF [] iX6 := iv_uI (iv_zI (iv_zI (iv_zI (iv_iX5)))) (by decide +kernel)
set_option maxRecDepth 100000 in
theorem iv_iX : ivO CF [] iX := iv_iX6
set_option maxRecDepth 100000 in
theorem iv_iM0 : ivO CF [] iM0 := iv_zI (iv_zI (iv_zI (iv_zI (iv_zI (iv_zI (iv_zI (iv_zI (iv_zI (iv_zI (iv_zI (iv_zI (iv_zI (iv_zI (iv_zI (iv_zI (iv_zI (iv_zI (iv_zI (iv_uI (iv_uI (iv_zI (iv_zI (iv_zI (iv_zI (iv_iX))))) (by decide +kernel)) (by decide +kernel))))))))))))))))))))
set_option maxRecDepth 100000 in
theorem iv_iM1 : ivO CF [] iM1 := iv_uI (iv_uI (iv_zI (iv_zI (iv_zI (iv_zI (iv_zI (iv_zI (iv_zI (iv_zI (iv_zI (iv_iM0)))))))))) (by decide +kernel)) (by decide +kernel)
set_option maxRecDepth 100000 in
theorem iv_iM : ivO CF [] iM := iv_iM1
def lI : XI := cI iM 68 69 0 0 2200
theorem iv_lI : ivO CF [] lI := iv_cI iv_iM
theorem qq_lI : QQ lI := by
  have e : ∀ t, t < 4 → lI 71 t = 0 := by decide +kernel
  intro t j ht hj _
  rw [e t ht, i32_0] at hj
  omega
def refB : List (Option (List Nat)) → List (Option Nat) → Bool
  | [], [] => true
  | some ps :: cs, some p :: rs => nmem p ps && refB cs rs
  | none :: cs, none :: rs => refB cs rs
  | _, _ => false
theorem refB_ok : ∀ {cs : List (Option (List Nat))} {rs : List (Option Nat)}, refB cs rs = true → refO cs rs
  | [], [], _ => ⟨rfl, fun k ps h => (by cases h), fun k h => (by cases h)⟩
  | some ps :: cs, some p :: rs, h => by
    replace h : (nmem p ps && refB cs rs) = true := h
    simp only [Bool.and_eq_true] at h
    have y := refB_ok h.2
    refine ⟨by simp [y.1], fun k qs hk => ?_, fun k hk => ?_⟩
    · cases k with
      | zero =>
        cases hk
        exact ⟨p, nmem_el h.1, rfl⟩
      | succ k => exact y.2.1 k qs hk
    · cases k with
      | zero => cases hk
      | succ k => exact y.2.2 k hk
  | none :: cs, none :: rs, h => by
    have y := refB_ok (cs := cs) (rs := rs) h
    refine ⟨by simp [y.1], fun k qs hk => ?_, fun k hk => ?_⟩
    · cases k with
      | zero => cases hk
      | succ k => exact y.2.1 k qs hk
    · cases k with
      | zero => rfl
      | succ k => exact y.2.2 k hk
  | [], _ :: _, h => by cases h
  | some _ :: _, [], h => by cases h
  | none :: _, [], h => by cases h
  | some _ :: _, none :: _, h => by cases h
  | none :: _, some _ :: _, h => by cases h
def aoB (o : AO) (x : XO) : Bool := match o, x with
  | .inl a, .inl b => Nat.beq a.1 b.1 && refB a.2 b.2
  | .inr a, .inr b => Nat.beq a.1 b.1 && Nat.beq a.2.1 b.2.1 && refB a.2.2 b.2.2
  | _, _ => false
theorem aoB_ok {o : AO} {x : XO} (h : aoB o x = true) : aoO o x := by
  unfold aoB at h
  split at h
  · simp only [Bool.and_eq_true] at h
    exact ⟨Nat.eq_of_beq_eq_true h.1, refB_ok h.2⟩
  · simp only [Bool.and_eq_true] at h
    exact ⟨Nat.eq_of_beq_eq_true h.1.1, Nat.eq_of_beq_eq_true h.1.2, refB_ok h.2⟩
  · cases h
theorem sh_XMb : (CF.1.all fun q => match xn shXM q.1 with
    | some x => aoB q.2 x
    | none => false) = true := by decide +kernel
theorem sh_XM : shO CF shXM := by
  intro p o h
  have y := List.all_eq_true.mp sh_XMb (p, o) (xlk_mem h)
  dsimp only at y
  split at y
  · rename_i x e
    exact ⟨x, e, aoB_ok y⟩
  · cases y
end
section
-- ===== feed, on both sides =====
theorem and255 (x : Int32) : (x &&& 255).toInt = x.toInt % 256 := by
  have e : (x &&& 255).toBitVec = x.toBitVec &&& 255#32 := rfl
  have h1 : (x &&& 255).toInt = (x &&& 255).toBitVec.toInt := rfl
  have h2 : x.toInt = x.toBitVec.toInt := rfl
  have h3 : (x.toBitVec &&& 255#32).toNat = x.toBitVec.toNat % 256 := by
    rw [BitVec.toNat_and]
    exact Nat.and_two_pow_sub_one_eq_mod x.toBitVec.toNat 8
  rw [h1, e, h2, BitVec.toInt_eq_toNat_cond, BitVec.toInt_eq_toNat_cond, h3]
  have := x.toBitVec.isLt
  split <;> split <;> omega
theorem i8_of (x : Int32) : (vp_nar .byte x.toInt8.toInt32).toInt = x.toInt.bmod 256 := by
  show (x.toInt8.toInt32.toInt8.toInt32).toInt = _
  rw [Int8.toInt_toInt32, Int32.toInt_toInt8, Int8.toInt_toInt32, Int32.toInt_toInt8]
  show (x.toInt.bmod 256).bmod 256 = _
  rw [Int.bmod_bmod]
theorem br_byte (x : Int32) : BR (x &&& 255) (vp_nar .byte x.toInt8.toInt32) := by
  have a := and255 x
  have b := i8_of x
  have c : x.toInt.bmod 256 = if x.toInt % 256 < 128 then x.toInt % 256 else x.toInt % 256 - 256 := rfl
  rw [c] at b
  have z := Int.emod_nonneg x.toInt (show (256 : Int) ≠ 0 by decide)
  have y := Int.emod_lt_of_pos x.toInt (show (0 : Int) < 256 by decide)
  have t0 : (0 : Int32).toInt = 0 := rfl
  have t1 : (127 : Int32).toInt = 127 := rfl
  have t2 : (128 : Int32).toInt = 128 := rfl
  have t3 : (255 : Int32).toInt = 255 := rfl
  by_cases h : x.toInt % 256 < 128
  · rw [if_pos h] at b
    exact Or.inl ⟨Int32.le_iff_toInt_le.mpr (by omega), Int32.toInt_inj.mp (by omega), Int32.le_iff_toInt_le.mpr (by omega)⟩
  · rw [if_neg h] at b
    exact Or.inr ⟨Int32.lt_iff_toInt_lt.mpr (by omega), Int32.le_iff_toInt_le.mpr (by omega), Int32.le_iff_toInt_le.mpr (by omega)⟩
theorem cell_frC {p k : Nat} (hp : (CFc.all fun q => !(Nat.beq q.1 p)) = true) (h2 : xlk CFr p = none) : cellI CF p k = fr := by
  unfold cellI
  split
  · rename_i q e
    exfalso
    have hm := List.mem_of_find?_eq_some e
    have hq := List.find?_some e
    simp only [Bool.and_eq_true] at hq
    have e1 := Nat.eq_of_beq_eq_true hq.1
    have y := List.all_eq_true.mp hp q hm
    rw [e1] at y
    have z : Nat.beq p p = true := by simp
    rw [z] at y
    cases y
  · split
    · rename_i r e
      have y := h2.symm.trans e
      cases y
    · rfl
theorem cell_31 (k : Nat) : cellI CF 31 k = fr := cell_frC (by decide +kernel) (by decide +kernel)
theorem cell_70 (k : Nat) : cellI CF 70 k = fr := cell_frC (by decide +kernel) (by decide +kernel)
theorem cell_301 : cellI CF 30 1 = (0, 300) := by decide +kernel
/-- the shifts, one after another -/
def shN : Nat → Int32
  | 0 => 24
  | 1 => 16
  | 2 => 8
  | _ => 0
def shB (x : Int32) (k : Nat) : Int32 := x >>> (shN k &&& 31)
/-- the class's tape while a word of four bytes is added -/
def ADk (x : Int32) (T k : Nat) (I I' : XI) : Prop := ((∀ p, p ≠ 30 → p ≠ 31 → I' p = I p) ∧ (∀ j, j ≠ 1 → I' 30 j = I 30 j) ∧ I' 30 1 = nI (T + k)) ∧ ((∀ j, j < T → I' 31 j = I 31 j) ∧ ∀ j, j < k → I' 31 (T + j) = shB x j &&& 255) ∧ ((ivO CF [] I → ivO CF [] I') ∧ (QQ I → QQ I'))
theorem ADk.z {x : Int32} {T : Nat} {I : XI} (e : I 30 1 = nI T) : ADk x T 0 I I := ⟨⟨fun _ _ _ => rfl, fun _ _ => rfl, e⟩, ⟨fun _ _ => rfl, fun j hj => absurd hj (Nat.not_lt_zero j)⟩, id, id⟩
theorem ADk.s {x : Int32} {T k : Nat} {I I' : XI} (hT : T + k < 300) (h : ADk x T k I I') : ADk x T (k + 1) I (uI (uI I' 31 (T + k) (shB x k &&& 255)) 30 1 (nI (T + k + 1))) := by
  obtain ⟨⟨h1, h2, h3⟩, ⟨h4, h5⟩, h6, h7⟩ := h
  refine ⟨⟨fun p p1 p2 => ?_, fun j hj => ?_, ?_⟩, ⟨fun j hj => ?_, fun j hj => ?_⟩, fun hi => ?_, fun hq => qq_u (by decide) (qq_u (by decide) (h7 hq))⟩
  · rw [uI_ne p1, uI_ne p2]
    exact h1 p p1 p2
  · rw [uI_atC, if_neg hj, uI_ne (by decide)]
    exact h2 j hj
  · rw [uI_atC, if_pos rfl]
    rfl
  · rw [uI_ne (by decide), uI_atC, if_neg (by omega)]
    exact h4 j hj
  · rw [uI_ne (by decide), uI_atC]
    by_cases z : j = k
    · rw [if_pos (by omega), z]
    · rw [if_neg (by omega)]
      exact h5 j (by omega)
  · refine iv_put (iv_put (h6 hi) (by rw [cell_31]; exact inI_fr _)) ?_
    rw [cell_301, nI_toInt (by omega)]
    exact ⟨by dsimp only; omega, by dsimp only; omega⟩
set_option maxRecDepth 100000 in
set_option maxHeartbeats 1000000 in
theorem ad_step (l : Launch) (d : Nat) (ru ta : Nat) (rs : List XO) (x s s' : Int32) (T k : Nat) (hT : T + k < 300) (hs : ¬ s < 0) (hs' : s + -8 = s') (I : XI) (J : XJ) (Rp : XR) (n : Nat) (e : I 30 1 = nI (T + k)) (h : xrun xxX7 none false false (shH ru ta rs).length 0 0 none l d tX7_add [3] Rp n 3 [some (.ref 30), some (.int x), some (.int s')] [] (shH ru ta rs) (uI (uI I 31 (T + k) ((x >>> (s &&& 31)) &&& 255)) 30 1 (nI (T + k + 1))) J 0 0) : xrun xxX7 none false false (shH ru ta rs).length 0 0 none l d tX7_add [3] Rp (n + 1) 3 [some (.ref 30), some (.int x), some (.int s)] [] (shH ru ta rs) I J 0 0 := by
  have v : vp_in (I 30 1) 300 := by rw [e]; exact vp_in_nI hT (by omega)
  refine xrun_step fun K hK => ?_
  refine And.intro (fun z => absurd z hs) (fun _ => ?_)
  refine And.intro (fun z => ?_) (fun _ => ?_)
  · exfalso
    have z : I 30 1 < nI 0 := z
    rw [e] at z
    exact absurd z (nI_nlt (by omega) (by omega))
  refine And.intro (fun z => ?_) (fun _ => And.intro v ?_)
  · exfalso
    have z : nI 300 ≤ I 30 1 := z
    rw [e, nI_leI (by omega) (by omega)] at z
    omega
  · refine hK 3 [some (.ref 30), some (.int x), some (.int (s + -8))] [] (shH ru ta rs) (uI (uI I 31 (I 30 1).toNatClampNeg ((x >>> (s &&& 31)) &&& 255)) 30 1 (I 30 1 + 1)) J 0 0 ?_
    rw [e, nI_clamp (by omega), nI_1, hs']
    exact h
set_option maxRecDepth 100000 in
set_option maxHeartbeats 1000000 in
theorem c_add (l : Launch) (d : Nat) (ru ta : Nat) (rs : List XO) (x : Int32) (T : Nat) (hT : T + 4 ≤ 300) (I : XI) (J : XJ) (Rp : XR) (e : I 30 1 = nI T) (hR : ∀ I', ADk x T 4 I I' → Rp none (shH ru ta rs) I' J) : xm l (d + 1) 0 0 mX7_add [.ref 30, .int x] (shH ru ta rs) I J Rp := by
  refine xm_ofK 6 (X := xxX7) (t := tX7_add) (stop := [3]) (ini := false) xx7 pl7 rfl kX7_add (fun h => by cases h) (Nat.le_of_ble_eq_true rfl) (fun K hK => ?_)
  refine hK 3 [some (.ref 30), some (.int x), some (.int 24)] [] (shH ru ta rs) I J 0 0 ?_
  have a0 := ADk.z (x := x) e
  have a1 := a0.s (by omega)
  have a2 := a1.s (by omega)
  have a3 := a2.s (by omega)
  have a4 := a3.s (by omega)
  refine ad_step l d ru ta rs x 24 16 T 0 (by omega) (by decide) (by decide) I J Rp 5 a0.1.2.2 ?_
  refine ad_step l d ru ta rs x 16 8 T 1 (by omega) (by decide) (by decide) _ J Rp 4 a1.1.2.2 ?_
  refine ad_step l d ru ta rs x 8 0 T 2 (by omega) (by decide) (by decide) _ J Rp 3 a2.1.2.2 ?_
  refine ad_step l d ru ta rs x 0 (-8) T 3 (by omega) (by decide) (by decide) _ J Rp 2 a3.1.2.2 ?_
  refine xrun_step fun K hK => ?_
  refine And.intro (fun _ => ?_) (fun z => absurd (show (-8 : Int32) < 0 by decide) z)
  exact hR _ a4
/-- the words of a line -/
def wdN (a b c d e : Int32) : Nat → Int32
  | 0 => a
  | 1 => b
  | 2 => c
  | 3 => d
  | _ => e
/-- the class's tape while words are added -/
def FDm (w : Nat → Int32) (T m : Nat) (I I' : XI) : Prop := ((∀ p, p ≠ 30 → p ≠ 31 → I' p = I p) ∧ (∀ j, j ≠ 1 → I' 30 j = I 30 j) ∧ I' 30 1 = nI (T + 4 * m)) ∧ ((∀ j, j < T → I' 31 j = I 31 j) ∧ ∀ j, j < 4 * m → I' 31 (T + j) = shB (w (j / 4)) (j % 4) &&& 255) ∧ ((ivO CF [] I → ivO CF [] I') ∧ (QQ I → QQ I'))
theorem FDm.z {w : Nat → Int32} {T : Nat} {I : XI} (e : I 30 1 = nI T) : FDm w T 0 I I := ⟨⟨fun _ _ _ => rfl, fun _ _ => rfl, e⟩, ⟨fun _ _ => rfl, fun j hj => absurd hj (Nat.not_lt_zero j)⟩, id, id⟩
theorem FDm.s {w : Nat → Int32} {T m : Nat} {I I1 I2 : XI} (h : FDm w T m I I1) (g : ADk (w m) (T + 4 * m) 4 I1 I2) : FDm w T (m + 1) I I2 := by
  obtain ⟨⟨h1, h2, h3⟩, ⟨h4, h5⟩, h6, h7⟩ := h
  obtain ⟨⟨g1, g2, g3⟩, ⟨g4, g5⟩, g6, g7⟩ := g
  refine ⟨⟨fun p p1 p2 => (g1 p p1 p2).trans (h1 p p1 p2), fun j hj => (g2 j hj).trans (h2 j hj), g3⟩, ⟨fun j hj => (g4 j (by omega)).trans (h4 j hj), fun j hj => ?_⟩, fun hi => g6 (h6 hi), fun hq => g7 (h7 hq)⟩
  by_cases z : j < 4 * m
  · exact (g4 (T + j) (by omega)).trans (h5 j z)
  · have y := g5 (j - 4 * m) (by omega)
    rw [show T + 4 * m + (j - 4 * m) = T + j by omega] at y
    rw [y, show j / 4 = m by omega, show j % 4 = j - 4 * m by omega]
set_option maxRecDepth 100000 in
theorem c_room (l : Launch) (d : Nat) (ru ta : Nat) (rs : List XO) (T : Nat) (hT : T ≤ 300) (I : XI) (J : XJ) (Rp : XR) (e : I 30 1 = nI T) (h1 : T + 20 ≤ 300 → Rp (some (.int 1)) (shH ru ta rs) I J) (h0 : ¬ T + 20 ≤ 300 → Rp (some (.int 0)) (shH ru ta rs) I J) : xm l (d + 1) 0 0 mX7_hasRoom [.ref 30, .int 20] (shH ru ta rs) I J Rp := by
  refine xm_ofK 0 (X := xxX7) (t := tX7_hasRoom) (stop := []) (ini := false) xx7 pl7 rfl kX7_hasRoom (fun h => by cases h) (Nat.le_of_ble_eq_true rfl) (fun K hK => ?_)
  have es : I 30 1 + nI 20 = nI (T + 20) := by rw [e, nI_add]
  have key : nI 300 < I 30 1 + nI 20 ↔ ¬ T + 20 ≤ 300 := by
    rw [es, nI_ltI (by omega) (by omega)]
    omega
  refine And.intro (fun z => ?_) (fun z => ?_)
  · exact And.intro (Or.inl rfl) (h0 (key.mp z))
  · exact And.intro (Or.inr rfl) (h1 (Decidable.byContradiction (fun y => z (key.mpr y))))
set_option maxRecDepth 100000 in
set_option maxHeartbeats 1000000 in
theorem c_feed (l : Launch) (d' : Nat) (ru ta : Nat) (rs : List XO) (a b c d e : Int32) (T : Nat) (hT : T ≤ 300) (I : XI) (J : XJ) (Rp : XR) (eT : I 30 1 = nI T) (h1 : T + 20 ≤ 300 → ∀ I', FDm (wdN a b c d e) T 5 I I' → Rp (some (.int (nI (T + 20)))) (shH ru ta rs) I' J) (h0 : ¬ T + 20 ≤ 300 → Rp (some (.int (-1))) (shH ru ta rs) I J) : xm l (d' + 2) 0 0 mX11_feed [.ref 0, .int a, .int b, .int c, .int d, .int e] (shH ru ta rs) I J Rp := by
  refine xm_ofK 0 (X := xxX11) (t := tX11_feed) (stop := []) (ini := false) xx11 pl11 rfl kX11_feed (fun h => by cases h) (Nat.le_of_ble_eq_true rfl) (fun K hK => ?_)
  refine c_room l d' ru ta rs T hT I J _ eT (fun hr => ?_) (fun hr => ?_)
  · refine And.intro (fun _ => ?_) (fun h => absurd h (show ¬ ((1 : Int32) = (0 : Int32)) by decide))
    have f0 := FDm.z (w := wdN a b c d e) eT
    refine c_add l d' ru ta rs a T (by omega) I J _ eT (fun I1 g1 => ?_)
    have f1 := f0.s g1
    refine c_add l d' ru ta rs b (T + 4 * 1) (by omega) I1 J _ f1.1.2.2 (fun I2 g2 => ?_)
    have f2 := f1.s g2
    refine c_add l d' ru ta rs c (T + 4 * 2) (by omega) I2 J _ f2.1.2.2 (fun I3 g3 => ?_)
    have f3 := f2.s g3
    refine c_add l d' ru ta rs d (T + 4 * 3) (by omega) I3 J _ f3.1.2.2 (fun I4 g4 => ?_)
    have f4 := f3.s g4
    refine c_add l d' ru ta rs e (T + 4 * 4) (by omega) I4 J _ f4.1.2.2 (fun I5 g5 => ?_)
    have f5 := f4.s g5
    show Rp (some (.int (I5 30 1))) (shH ru ta rs) I5 J
    rw [f5.1.2.2]
    exact h1 hr I5 f5
  · refine And.intro (fun h => absurd rfl h) (fun _ => ?_)
    exact h0 hr
-- the reference
def PUk (x : Int32) (T k : Nat) (I I' : XI) : Prop := ((∀ p, p ≠ 67 → p ≠ 70 → I' p = I p) ∧ (∀ j, j ≠ 3 → I' 67 j = I 67 j) ∧ I' 67 3 = nI (T + k)) ∧ ((∀ j, j < T → I' 70 j = I 70 j) ∧ ∀ j, j < k → I' 70 (T + j) = vp_nar .byte (shB x j).toInt8.toInt32) ∧ ((ivO CF [] I → ivO CF [] I') ∧ (QQ I → QQ I'))
theorem PUk.z {x : Int32} {T : Nat} {I : XI} (e : I 67 3 = nI T) : PUk x T 0 I I := ⟨⟨fun _ _ _ => rfl, fun _ _ => rfl, e⟩, ⟨fun _ _ => rfl, fun j hj => absurd hj (Nat.not_lt_zero j)⟩, id, id⟩
theorem PUk.s {x : Int32} {T k : Nat} {I I' : XI} (hT : T + k < 300) (h : PUk x T k I I') : PUk x T (k + 1) I (uI (uI I' 70 (T + k) (vp_nar .byte (shB x k).toInt8.toInt32)) 67 3 (nI (T + k + 1))) := by
  obtain ⟨⟨h1, h2, h3⟩, ⟨h4, h5⟩, h6, h7⟩ := h
  refine ⟨⟨fun p p1 p2 => ?_, fun j hj => ?_, ?_⟩, ⟨fun j hj => ?_, fun j hj => ?_⟩, fun hi => ?_, fun hq => qq_u (by decide) (qq_u (by decide) (h7 hq))⟩
  · rw [uI_ne p1, uI_ne p2]
    exact h1 p p1 p2
  · rw [uI_atC, if_neg hj, uI_ne (by decide)]
    exact h2 j hj
  · rw [uI_atC, if_pos rfl]
    rfl
  · rw [uI_ne (by decide), uI_atC, if_neg (by omega)]
    exact h4 j hj
  · rw [uI_ne (by decide), uI_atC]
    by_cases z : j = k
    · rw [if_pos (by omega), z]
    · rw [if_neg (by omega)]
      exact h5 j (by omega)
  · refine iv_put (iv_put (h6 hi) (by rw [cell_70]; exact inI_fr _)) ?_
    rw [cell_674.2.2.2.1, nI_toInt (by omega)]
    exact ⟨by dsimp only; omega, by dsimp only; omega⟩
set_option maxRecDepth 100000 in
set_option maxHeartbeats 1000000 in
theorem pu_step (l : Launch) (d : Nat) (ru ta : Nat) (rs : List XO) (x s s' : Int32) (T k : Nat) (hT : T + k < 300) (hs : ¬ s < 0) (hs' : s - 8 = s') (I : XI) (J : XJ) (Rp : XR) (n : Nat) (e : I 67 3 = nI (T + k)) (h : xrun xxX12 none false false (shH ru ta rs).length 0 0 none l d tX12_put [3] Rp n 3 [some (.ref 67), some (.int x), some (.int s')] [] (shH ru ta rs) (uI (uI I 70 (T + k) (vp_nar .byte (x >>> (s &&& 31)).toInt8.toInt32)) 67 3 (nI (T + k + 1))) J 0 0) : xrun xxX12 none false false (shH ru ta rs).length 0 0 none l d tX12_put [3] Rp (n + 1) 3 [some (.ref 67), some (.int x), some (.int s)] [] (shH ru ta rs) I J 0 0 := by
  have v : vp_in (I 67 3) 300 := by rw [e]; exact vp_in_nI hT (by omega)
  refine xrun_step fun K hK => ?_
  refine And.intro (fun z => absurd z hs) (fun _ => And.intro v ?_)
  refine hK 3 [some (.ref 67), some (.int x), some (.int (s - 8))] [] (shH ru ta rs) (uI (uI I 70 (I 67 3).toNatClampNeg (vp_nar .byte (x >>> (s &&& 31)).toInt8.toInt32)) 67 3 (I 67 3 + 1)) J 0 0 ?_
  rw [e, nI_clamp (by omega), nI_1, hs']
  exact h
set_option maxRecDepth 100000 in
set_option maxHeartbeats 1000000 in
theorem m_put (l : Launch) (d : Nat) (ru ta : Nat) (rs : List XO) (x : Int32) (T : Nat) (hT : T + 4 ≤ 300) (I : XI) (J : XJ) (Rp : XR) (e : I 67 3 = nI T) (hR : ∀ I', PUk x T 4 I I' → Rp none (shH ru ta rs) I' J) : xm l (d + 1) 0 0 mX12_put [.ref 67, .int x] (shH ru ta rs) I J Rp := by
  refine xm_ofK 6 (X := xxX12) (t := tX12_put) (stop := [3]) (ini := false) xx12 pl12 rfl kX12_put (fun h => by cases h) (Nat.le_of_ble_eq_true rfl) (fun K hK => ?_)
  refine hK 3 [some (.ref 67), some (.int x), some (.int 24)] [] (shH ru ta rs) I J 0 0 ?_
  have a0 := PUk.z (x := x) e
  have a1 := a0.s (by omega)
  have a2 := a1.s (by omega)
  have a3 := a2.s (by omega)
  have a4 := a3.s (by omega)
  refine pu_step l d ru ta rs x 24 16 T 0 (by omega) (by decide) (by decide) I J Rp 5 a0.1.2.2 ?_
  refine pu_step l d ru ta rs x 16 8 T 1 (by omega) (by decide) (by decide) _ J Rp 4 a1.1.2.2 ?_
  refine pu_step l d ru ta rs x 8 0 T 2 (by omega) (by decide) (by decide) _ J Rp 3 a2.1.2.2 ?_
  refine pu_step l d ru ta rs x 0 (-8) T 3 (by omega) (by decide) (by decide) _ J Rp 2 a3.1.2.2 ?_
  refine xrun_step fun K hK => ?_
  refine And.intro (fun _ => ?_) (fun z => absurd (show (-8 : Int32) < 0 by decide) z)
  exact hR _ a4
def PDm (w : Nat → Int32) (T m : Nat) (I I' : XI) : Prop := ((∀ p, p ≠ 67 → p ≠ 70 → I' p = I p) ∧ (∀ j, j ≠ 3 → I' 67 j = I 67 j) ∧ I' 67 3 = nI (T + 4 * m)) ∧ ((∀ j, j < T → I' 70 j = I 70 j) ∧ ∀ j, j < 4 * m → I' 70 (T + j) = vp_nar .byte (shB (w (j / 4)) (j % 4)).toInt8.toInt32) ∧ ((ivO CF [] I → ivO CF [] I') ∧ (QQ I → QQ I'))
theorem PDm.z {w : Nat → Int32} {T : Nat} {I : XI} (e : I 67 3 = nI T) : PDm w T 0 I I := ⟨⟨fun _ _ _ => rfl, fun _ _ => rfl, e⟩, ⟨fun _ _ => rfl, fun j hj => absurd hj (Nat.not_lt_zero j)⟩, id, id⟩
theorem PDm.s {w : Nat → Int32} {T m : Nat} {I I1 I2 : XI} (h : PDm w T m I I1) (g : PUk (w m) (T + 4 * m) 4 I1 I2) : PDm w T (m + 1) I I2 := by
  obtain ⟨⟨h1, h2, h3⟩, ⟨h4, h5⟩, h6, h7⟩ := h
  obtain ⟨⟨g1, g2, g3⟩, ⟨g4, g5⟩, g6, g7⟩ := g
  refine ⟨⟨fun p p1 p2 => (g1 p p1 p2).trans (h1 p p1 p2), fun j hj => (g2 j hj).trans (h2 j hj), g3⟩, ⟨fun j hj => (g4 j (by omega)).trans (h4 j hj), fun j hj => ?_⟩, fun hi => g6 (h6 hi), fun hq => g7 (h7 hq)⟩
  by_cases z : j < 4 * m
  · exact (g4 (T + j) (by omega)).trans (h5 j z)
  · have y := g5 (j - 4 * m) (by omega)
    rw [show T + 4 * m + (j - 4 * m) = T + j by omega] at y
    rw [y, show j / 4 = m by omega, show j % 4 = j - 4 * m by omega]
set_option maxRecDepth 100000 in
set_option maxHeartbeats 1000000 in
theorem m_feed (l : Launch) (d' : Nat) (ru ta : Nat) (rs : List XO) (a b c d e : Int32) (T : Nat) (hT : T ≤ 300) (I : XI) (J : XJ) (Rp : XR) (eT : I 67 3 = nI T) (h1 : T + 20 ≤ 300 → ∀ I', PDm (wdN a b c d e) T 5 I I' → Rp (some (.int (nI (T + 20)))) (shH ru ta rs) I' J) (h0 : ¬ T + 20 ≤ 300 → Rp (some (.int (-1))) (shH ru ta rs) I J) : xm l (d' + 2) 0 0 mX12_feed [.ref 67, .int a, .int b, .int c, .int d, .int e] (shH ru ta rs) I J Rp := by
  refine xm_ofK 0 (X := xxX12) (t := tX12_feed) (stop := []) (ini := false) xx12 pl12 rfl kX12_feed (fun h => by cases h) (Nat.le_of_ble_eq_true rfl) (fun K hK => ?_)
  have es : I 67 3 + nI 20 = nI (T + 20) := by rw [eT, nI_add]
  have key : I 67 3 + nI 20 ≤ nI 300 ↔ T + 20 ≤ 300 := by rw [es]; exact nI_leI (by omega) (by omega)
  refine And.intro (fun hr => ?_) (fun hr => h0 (fun y => hr (key.mpr y)))
  have hr := key.mp hr
  have f0 := PDm.z (w := wdN a b c d e) eT
  refine m_put l d' ru ta rs a T (by omega) I J _ eT (fun I1 g1 => ?_)
  have f1 := f0.s g1
  refine m_put l d' ru ta rs b (T + 4 * 1) (by omega) I1 J _ f1.1.2.2 (fun I2 g2 => ?_)
  have f2 := f1.s g2
  refine m_put l d' ru ta rs c (T + 4 * 2) (by omega) I2 J _ f2.1.2.2 (fun I3 g3 => ?_)
  have f3 := f2.s g3
  refine m_put l d' ru ta rs d (T + 4 * 3) (by omega) I3 J _ f3.1.2.2 (fun I4 g4 => ?_)
  have f4 := f3.s g4
  refine m_put l d' ru ta rs e (T + 4 * 4) (by omega) I4 J _ f4.1.2.2 (fun I5 g5 => ?_)
  have f5 := f4.s g5
  show Rp (some (.int (I5 67 3))) (shH ru ta rs) I5 J
  rw [f5.1.2.2]
  exact h1 hr I5 f5
end
section
-- ===== the worth of a law's orders =====
def bnd (v : Int) : Int := if 1000000 < v then 1000000 else if v < -1000000 then -1000000 else v
def wrk (o : Nat) (x y : Int) : Int := match o with
  | 43 => bnd (x + y)
  | 45 => bnd (x - y)
  | 42 => bnd (x * y)
  | 47 => if y = 0 then 0 else x.tdiv y
  | 60 => if x < y then 1 else 0
  | 62 => if y < x then 1 else 0
  | 61 => if x = y then 1 else 0
  | 35 => if x = y then 0 else 1
  | 300 => if x ≤ y then 1 else 0
  | 301 => if y ≤ x then 1 else 0
  | 406 => x * y
  | _ => if 0 < x + y then 1 else 0
/-- one order; the pile's top first -/
def sm1 (nm : Nat → Int) (o : Odr) (p : List Int) : List Int := match o.1, p with
  | 400, p => (o.2 : Int) :: p
  | 401, p => nm o.2 :: p
  | 402, x :: p => -x :: p
  | 403, x :: p => (x * (o.2 : Int)).tdiv 100 :: p
  | 405, x :: p => (1 - x) :: p
  | q, y :: x :: p => wrk q x y :: p
  | _, p => p
def smE (nm : Nat → Int) : List Odr → List Int → List Int
  | [], p => p
  | o :: e, p => smE nm e (sm1 nm o p)
abbrev inM (x : Int) : Prop := -1000000 ≤ x ∧ x ≤ 1000000
/-- the pile is as its types say -/
def VT : List Bool → List Int → Prop
  | [], [] => True
  | b :: t, x :: p => (match b with
    | true => x = 0 ∨ x = 1
    | false => inM x) ∧ VT t p
  | _, _ => False
theorem VT.len : ∀ {t : List Bool} {p : List Int}, VT t p → t.length = p.length
  | [], [], _ => rfl
  | _ :: _, _ :: _, h => by
    simp only [List.length_cons]
    rw [VT.len h.2]
  | [], _ :: _, h => h.elim
  | _ :: _, [], h => h.elim
theorem beq_1 {a b : Nat} (h : Nat.beq a b = true) : a = b := Nat.eq_of_beq_eq_true h
theorem tyo_el {k : Nat} {o : Odr} {t u : List Bool} (h : tyo k o t = some u) : (o.1 = 400 ∧ t.length < 64 ∧ o.2 < 10000 ∧ u = false :: t) ∨ (o.1 = 401 ∧ t.length < 64 ∧ myN o.2 k = true ∧ o.2 ≤ 10 ∧ u = false :: t) ∨ (o.1 = 402 ∧ ∃ v, t = false :: v ∧ u = false :: v) ∨ (o.1 = 403 ∧ o.2 ≤ 100 ∧ ∃ v, t = false :: v ∧ u = false :: v) ∨ (o.1 = 405 ∧ ∃ v, t = true :: v ∧ u = true :: v) ∨ ((o.1 = 43 ∨ o.1 = 45 ∨ o.1 = 42 ∨ o.1 = 47) ∧ ∃ v, t = false :: false :: v ∧ u = false :: v) ∨ ((o.1 = 60 ∨ o.1 = 62 ∨ o.1 = 61 ∨ o.1 = 35 ∨ o.1 = 300 ∨ o.1 = 301) ∧ ∃ v, t = false :: false :: v ∧ u = true :: v) ∨ ((o.1 = 406 ∨ o.1 = 407) ∧ ∃ v, t = true :: true :: v ∧ u = true :: v) := by
  unfold tyo at h
  split at h
  · rename_i e
    split at h
    · rename_i e2
      rw [Bool.and_eq_true] at e2
      exact Or.inl ⟨beq_1 e, Nat.blt_eq.mp e2.1, Nat.blt_eq.mp e2.2, (Option.some.inj h).symm⟩
    · cases h
  · split at h
    · rename_i e
      split at h
      · rename_i e2
        unfold NmOK at e2
        rw [Bool.and_eq_true, Bool.and_eq_true] at e2
        exact Or.inr (Or.inl ⟨beq_1 e, Nat.blt_eq.mp e2.1, e2.2.1, Nat.le_of_ble_eq_true e2.2.2, (Option.some.inj h).symm⟩)
      · cases h
    · split at h
      · rename_i e
        rw [Bool.or_eq_true, Bool.and_eq_true] at e
        split at h
        · have e3 := (Option.some.inj h).symm
          rcases e with e | ⟨e, e2⟩
          · exact Or.inr (Or.inr (Or.inl ⟨beq_1 e, _, rfl, e3⟩))
          · exact Or.inr (Or.inr (Or.inr (Or.inl ⟨beq_1 e, Nat.le_of_ble_eq_true e2, _, rfl, e3⟩)))
        · cases h
      · split at h
        · rename_i e
          split at h
          · exact Or.inr (Or.inr (Or.inr (Or.inr (Or.inl ⟨beq_1 e, _, rfl, (Option.some.inj h).symm⟩))))
          · cases h
        · split at h
          · rename_i e
            rw [Bool.or_eq_true, Bool.or_eq_true, Bool.or_eq_true] at e
            split at h
            · refine Or.inr (Or.inr (Or.inr (Or.inr (Or.inr (Or.inl ⟨?_, _, rfl, (Option.some.inj h).symm⟩)))))
              rcases e with (e | e) | (e | e)
              · exact Or.inl (beq_1 e)
              · exact Or.inr (Or.inl (beq_1 e))
              · exact Or.inr (Or.inr (Or.inl (beq_1 e)))
              · exact Or.inr (Or.inr (Or.inr (beq_1 e)))
            · cases h
          · split at h
            · rename_i e
              rw [Bool.or_eq_true, Bool.or_eq_true, Bool.or_eq_true, Bool.or_eq_true, Bool.or_eq_true] at e
              split at h
              · refine Or.inr (Or.inr (Or.inr (Or.inr (Or.inr (Or.inr (Or.inl ⟨?_, _, rfl, (Option.some.inj h).symm⟩))))))
                rcases e with ((e | e) | (e | e)) | (e | e)
                · exact Or.inl (beq_1 e)
                · exact Or.inr (Or.inl (beq_1 e))
                · exact Or.inr (Or.inr (Or.inl (beq_1 e)))
                · exact Or.inr (Or.inr (Or.inr (Or.inl (beq_1 e))))
                · exact Or.inr (Or.inr (Or.inr (Or.inr (Or.inl (beq_1 e)))))
                · exact Or.inr (Or.inr (Or.inr (Or.inr (Or.inr (beq_1 e)))))
              · cases h
            · split at h
              · rename_i e
                rw [Bool.or_eq_true] at e
                split at h
                · refine Or.inr (Or.inr (Or.inr (Or.inr (Or.inr (Or.inr (Or.inr ⟨?_, _, rfl, (Option.some.inj h).symm⟩))))))
                  rcases e with e | e
                  · exact Or.inl (beq_1 e)
                  · exact Or.inr (beq_1 e)
                · cases h
              · cases h
theorem mul_b {x y : Int} (hx : inM x) (hy : inM y) : -1000000000000 ≤ x * y ∧ x * y ≤ 1000000000000 := by
  have e : (x * y).natAbs = x.natAbs * y.natAbs := Int.natAbs_mul x y
  have a : x.natAbs ≤ 1000000 := by omega
  have b : y.natAbs ≤ 1000000 := by omega
  have c : x.natAbs * y.natAbs ≤ 1000000 * 1000000 := Nat.mul_le_mul a b
  omega
theorem bnd_in (v : Int) : inM (bnd v) := by
  unfold bnd
  split
  · exact ⟨by omega, by omega⟩
  · split
    · exact ⟨by omega, by omega⟩
    · exact ⟨by omega, by omega⟩
theorem tdiv_in {x y : Int} (hx : inM x) : inM (x.tdiv y) := by
  have e : (x.tdiv y).natAbs = x.natAbs / y.natAbs := Int.natAbs_tdiv x y
  have a : x.natAbs / y.natAbs ≤ x.natAbs := Nat.div_le_self _ _
  exact ⟨by omega, by omega⟩
theorem part_in {x : Int} {n : Nat} (hx : inM x) (hn : n ≤ 100) : inM ((x * (n : Int)).tdiv 100) := by
  have e : ((x * (n : Int)).tdiv 100).natAbs = (x * (n : Int)).natAbs / (100 : Int).natAbs := Int.natAbs_tdiv _ _
  have e2 : (x * (n : Int)).natAbs = x.natAbs * n := by rw [Int.natAbs_mul, Int.natAbs_natCast]
  have a : x.natAbs ≤ 1000000 := by omega
  have c : x.natAbs * n ≤ 1000000 * 100 := Nat.mul_le_mul a hn
  have d : (100 : Int).natAbs = 100 := rfl
  rw [e2, d] at e
  exact ⟨by omega, by omega⟩
theorem wrk_num {o : Nat} {x y : Int} (ho : o = 43 ∨ o = 45 ∨ o = 42 ∨ o = 47) (hx : inM x) : inM (wrk o x y) := by
  rcases ho with rfl | rfl | rfl | rfl
  · exact bnd_in _
  · exact bnd_in _
  · exact bnd_in _
  · show inM (if y = 0 then 0 else x.tdiv y)
    split
    · exact ⟨by omega, by omega⟩
    · exact tdiv_in hx
theorem wrk_b01 {o : Nat} {x y : Int} (ho : o = 60 ∨ o = 62 ∨ o = 61 ∨ o = 35 ∨ o = 300 ∨ o = 301) : wrk o x y = 0 ∨ wrk o x y = 1 := by
  rcases ho with rfl | rfl | rfl | rfl | rfl | rfl
  · show (if x < y then (1 : Int) else 0) = 0 ∨ (if x < y then (1 : Int) else 0) = 1
    split <;> simp
  · show (if y < x then (1 : Int) else 0) = 0 ∨ (if y < x then (1 : Int) else 0) = 1
    split <;> simp
  · show (if x = y then (1 : Int) else 0) = 0 ∨ (if x = y then (1 : Int) else 0) = 1
    split <;> simp
  · show (if x = y then (0 : Int) else 1) = 0 ∨ (if x = y then (0 : Int) else 1) = 1
    split <;> simp
  · show (if x ≤ y then (1 : Int) else 0) = 0 ∨ (if x ≤ y then (1 : Int) else 0) = 1
    split <;> simp
  · show (if y ≤ x then (1 : Int) else 0) = 0 ∨ (if y ≤ x then (1 : Int) else 0) = 1
    split <;> simp
theorem wrk_and {x y : Int} (hx : x = 0 ∨ x = 1) (hy : y = 0 ∨ y = 1) : wrk 406 x y = 0 ∨ wrk 406 x y = 1 := by
  rcases hx with rfl | rfl <;> rcases hy with rfl | rfl <;> decide
theorem wrk_or {x y : Int} (hx : x = 0 ∨ x = 1) (hy : y = 0 ∨ y = 1) : wrk 407 x y = 0 ∨ wrk 407 x y = 1 := by
  rcases hx with rfl | rfl <;> rcases hy with rfl | rfl <;> decide
theorem VT_2 {a b : Bool} {t : List Bool} {p : List Int} (h : VT (a :: b :: t) p) : ∃ y x q, p = y :: x :: q ∧ VT (a :: b :: t) (y :: x :: q) := by
  match p, h with
  | [], h => exact h.elim
  | [_], h => exact h.2.elim
  | y :: x :: q, h => exact ⟨y, x, q, rfl, h⟩
theorem VT_1 {a : Bool} {t : List Bool} {p : List Int} (h : VT (a :: t) p) : ∃ x q, p = x :: q ∧ VT (a :: t) (x :: q) := by
  match p, h with
  | [], h => exact h.elim
  | x :: q, h => exact ⟨x, q, rfl, h⟩
-- comparing longs
theorem lg_spec (x y : Int64) : (y.toInt < x.toInt ∧ lg_cmp x y = 1) ∨ (x.toInt = y.toInt ∧ lg_cmp x y = 0) ∨ (x.toInt < y.toInt ∧ lg_cmp x y = -1) := by
  unfold lg_cmp
  by_cases h : y < x
  · exact Or.inl ⟨Int64.lt_iff_toInt_lt.mp h, by rw [if_pos h]⟩
  · have h1 : ¬ y.toInt < x.toInt := fun z => h (Int64.lt_iff_toInt_lt.mpr z)
    rw [if_neg h]
    by_cases e : x = y
    · exact Or.inr (Or.inl ⟨by rw [e], by rw [if_pos e]⟩)
    · have e1 : x.toInt ≠ y.toInt := fun z => e (Int64.toInt_inj.mp z)
      exact Or.inr (Or.inr ⟨by omega, by rw [if_neg e]⟩)
theorem lc_eq {x y : Int64} : lg_cmp x y = 0 ↔ x.toInt = y.toInt := by
  rcases lg_spec x y with ⟨a, b⟩ | ⟨a, b⟩ | ⟨a, b⟩ <;> rw [b]
  · exact ⟨fun h => absurd h (by decide), fun h => by omega⟩
  · exact ⟨fun _ => a, fun _ => rfl⟩
  · exact ⟨fun h => absurd h (by decide), fun h => by omega⟩
theorem lc_le {x y : Int64} : lg_cmp x y ≤ 0 ↔ x.toInt ≤ y.toInt := by
  rcases lg_spec x y with ⟨a, b⟩ | ⟨a, b⟩ | ⟨a, b⟩ <;> rw [b]
  · exact ⟨fun h => absurd h (by decide), fun h => by omega⟩
  · exact ⟨fun _ => by omega, fun _ => by decide⟩
  · exact ⟨fun _ => by omega, fun _ => by decide⟩
theorem lc_ge {x y : Int64} : 0 ≤ lg_cmp x y ↔ y.toInt ≤ x.toInt := by
  rcases lg_spec x y with ⟨a, b⟩ | ⟨a, b⟩ | ⟨a, b⟩ <;> rw [b]
  · exact ⟨fun _ => by omega, fun _ => by decide⟩
  · exact ⟨fun _ => by omega, fun _ => by decide⟩
  · exact ⟨fun h => absurd h (by decide), fun h => by omega⟩
theorem lc_lt {x y : Int64} : lg_cmp x y < 0 ↔ x.toInt < y.toInt := by
  rcases lg_spec x y with ⟨a, b⟩ | ⟨a, b⟩ | ⟨a, b⟩ <;> rw [b]
  · exact ⟨fun h => absurd h (by decide), fun h => by omega⟩
  · exact ⟨fun h => absurd h (by decide), fun h => by omega⟩
  · exact ⟨fun _ => a, fun _ => by decide⟩
theorem lc_gt {x y : Int64} : 0 < lg_cmp x y ↔ y.toInt < x.toInt := by
  rcases lg_spec x y with ⟨a, b⟩ | ⟨a, b⟩ | ⟨a, b⟩ <;> rw [b]
  · exact ⟨fun _ => a, fun _ => by decide⟩
  · exact ⟨fun h => absurd h (by decide), fun h => by omega⟩
  · exact ⟨fun h => absurd h (by decide), fun h => by omega⟩
theorem i64_M : (1000000 : Int64).toInt = 1000000 := by decide
theorem i64_mM : (-1000000 : Int64).toInt = -1000000 := by decide
theorem i64_0 : (0 : Int64).toInt = 0 := by decide
theorem i64_1 : (1 : Int64).toInt = 1 := by decide
set_option maxRecDepth 100000 in
theorem ex_bound (l : Launch) (d : Nat) (x : Int64) (sh : List XO) (I : XI) (J : XJ) (Rp : XR) (hR : ∀ r : Int64, r.toInt = bnd x.toInt → Rp (some (.long r)) sh I J) : xm l (d + 1) 0 0 mX12_bound [.long x] sh I J Rp := by
  refine xm_ofK 0 (X := xxX12) (t := tX12_bound) (stop := []) (ini := false) xx12 pl12 rfl kX12_bound (fun h => by cases h) (Nat.le_of_ble_eq_true rfl) (fun K hK => ?_)
  refine And.intro (fun h1 => And.intro (fun h2 => hR x ?_) (fun h2 => hR (-1000000) ?_)) (fun h1 => hR 1000000 ?_)
  · have h1 := lc_le.mp (show lg_cmp x 1000000 ≤ 0 from h1)
    have h2 := lc_ge.mp (show 0 ≤ lg_cmp x (-1000000) from h2)
    rw [i64_M] at h1
    rw [i64_mM] at h2
    unfold bnd
    rw [if_neg (by omega), if_neg (by omega)]
  · have h1 := lc_le.mp (show lg_cmp x 1000000 ≤ 0 from h1)
    have h2 : ¬ _ := fun z => h2 (lc_ge.mpr z)
    have h2 : ¬ (-1000000 : Int64).toInt ≤ x.toInt := h2
    rw [i64_M] at h1
    rw [i64_mM] at h2 ⊢
    unfold bnd
    rw [if_neg (by omega), if_pos (by omega)]
  · have h1 : ¬ x.toInt ≤ (1000000 : Int64).toInt := fun z => h1 (lc_le.mpr z)
    rw [i64_M] at h1 ⊢
    unfold bnd
    rw [if_pos (by omega)]
/-- the orders that make one number of two -/
abbrev op2 (o : Nat) : Prop := o = 43 ∨ o = 45 ∨ o = 42 ∨ o = 47 ∨ o = 60 ∨ o = 62 ∨ o = 61 ∨ o = 35 ∨ o = 300 ∨ o = 301 ∨ o = 406 ∨ o = 407
set_option maxRecDepth 100000 in
theorem ex_worked (l : Launch) (d o : Nat) (ho : op2 o) (x y : Int64) (hx : inM x.toInt) (hy : inM y.toInt) (sh : List XO) (I : XI) (J : XJ) (Rp : XR) (hR : ∀ r : Int64, r.toInt = wrk o x.toInt y.toInt → Rp (some (.long r)) sh I J) : xm l (d + 2) 0 0 mX12_worked [.int (nI o), .long x, .long y] sh I J Rp := by
  refine xm_ofK 0 (X := xxX12) (t := tX12_worked) (stop := []) (ini := false) xx12 pl12 rfl kX12_worked (fun h => by cases h) (Nat.le_of_ble_eq_true rfl) (fun K hK => ?_)
  rcases ho with rfl | rfl | rfl | rfl | rfl | rfl | rfl | rfl | rfl | rfl | rfl | rfl
  · refine And.intro (fun h => absurd h (by decide)) (fun _ => ?_)
    refine And.intro (fun h => absurd h (by decide)) (fun _ => ?_)
    refine And.intro (fun _ => ?_) (fun h => absurd rfl h)
    exact ex_bound l d _ sh I J _ (fun r hr => hR r (by
      rw [hr, l64_add (by omega) (by omega)]
      rfl))
  · refine And.intro (fun h => absurd h (by decide)) (fun _ => ?_)
    refine And.intro (fun h => absurd h (by decide)) (fun _ => ?_)
    refine And.intro (fun h => absurd h (by decide)) (fun _ => ?_)
    refine And.intro (fun _ => ?_) (fun h => absurd rfl h)
    exact ex_bound l d _ sh I J _ (fun r hr => hR r (by
      rw [hr, l64_sub (by omega) (by omega)]
      rfl))
  · refine And.intro (fun h => absurd h (by decide)) (fun _ => ?_)
    refine And.intro (fun _ => ?_) (fun h => absurd rfl h)
    exact ex_bound l d _ sh I J _ (fun r hr => hR r (by
      have b := mul_b hx hy
      rw [hr, l64_mul (by omega) (by omega)]
      rfl))
  · refine And.intro (fun h => absurd h (by decide)) (fun _ => ?_)
    refine And.intro (fun h => absurd h (by decide)) (fun _ => ?_)
    refine And.intro (fun h => absurd h (by decide)) (fun _ => ?_)
    refine And.intro (fun h => absurd h (by decide)) (fun _ => ?_)
    refine And.intro (fun _ => ?_) (fun h => absurd rfl h)
    refine And.intro (fun h => And.intro (lgn h) (hR _ ?_)) (fun h => hR 0 ?_)
    · have h : ¬ y.toInt = (0 : Int64).toInt := fun z => h (lc_eq.mpr z)
      rw [i64_0] at h
      show (x / y).toInt = (if y.toInt = 0 then 0 else x.toInt.tdiv y.toInt)
      rw [if_neg h, Int64.toInt_div_of_ne_left x y (fun e => by
        rw [e] at hx
        exact absurd hx.1 (by decide))]
    · have h := lc_eq.mp h
      have h : y.toInt = 0 := h.trans i64_0
      show (0 : Int64).toInt = (if y.toInt = 0 then 0 else x.toInt.tdiv y.toInt)
      rw [if_pos h]
      rfl
  · refine And.intro (fun h => absurd h (by decide)) (fun _ => ?_)
    refine And.intro (fun h => absurd h (by decide)) (fun _ => ?_)
    refine And.intro (fun h => absurd h (by decide)) (fun _ => ?_)
    refine And.intro (fun h => absurd h (by decide)) (fun _ => ?_)
    refine And.intro (fun h => absurd h (by decide)) (fun _ => ?_)
    refine And.intro (fun _ => ?_) (fun h => absurd rfl h)
    refine And.intro (fun h => hR 0 ?_) (fun h => hR 1 ?_)
    · have h := lc_ge.mp h
      show (0 : Int64).toInt = (if x.toInt < y.toInt then 1 else 0)
      rw [if_neg (by omega)]
      rfl
    · have h : ¬ (y.toInt ≤ x.toInt) := fun z => h (lc_ge.mpr z)
      show (1 : Int64).toInt = (if x.toInt < y.toInt then 1 else 0)
      rw [if_pos (by omega)]
      rfl
  · refine And.intro (fun h => absurd h (by decide)) (fun _ => ?_)
    refine And.intro (fun h => absurd h (by decide)) (fun _ => ?_)
    refine And.intro (fun h => absurd h (by decide)) (fun _ => ?_)
    refine And.intro (fun h => absurd h (by decide)) (fun _ => ?_)
    refine And.intro (fun h => absurd h (by decide)) (fun _ => ?_)
    refine And.intro (fun h => absurd h (by decide)) (fun _ => ?_)
    refine And.intro (fun h => absurd h (by decide)) (fun _ => ?_)
    refine And.intro (fun _ => ?_) (fun h => absurd rfl h)
    refine And.intro (fun h => hR 0 ?_) (fun h => hR 1 ?_)
    · have h := lc_le.mp h
      show (0 : Int64).toInt = (if y.toInt < x.toInt then 1 else 0)
      rw [if_neg (by omega)]
      rfl
    · have h : ¬ (x.toInt ≤ y.toInt) := fun z => h (lc_le.mpr z)
      show (1 : Int64).toInt = (if y.toInt < x.toInt then 1 else 0)
      rw [if_pos (by omega)]
      rfl
  · refine And.intro (fun h => absurd h (by decide)) (fun _ => ?_)
    refine And.intro (fun h => absurd h (by decide)) (fun _ => ?_)
    refine And.intro (fun h => absurd h (by decide)) (fun _ => ?_)
    refine And.intro (fun h => absurd h (by decide)) (fun _ => ?_)
    refine And.intro (fun h => absurd h (by decide)) (fun _ => ?_)
    refine And.intro (fun h => absurd h (by decide)) (fun _ => ?_)
    refine And.intro (fun _ => ?_) (fun h => absurd rfl h)
    refine And.intro (fun h => hR 0 ?_) (fun h => hR 1 ?_)
    · have h : ¬ x.toInt = y.toInt := fun z => h (lc_eq.mpr z)
      show (0 : Int64).toInt = (if x.toInt = y.toInt then 1 else 0)
      rw [if_neg h]
      rfl
    · have h := lc_eq.mp h
      show (1 : Int64).toInt = (if x.toInt = y.toInt then 1 else 0)
      rw [if_pos h]
      rfl
  · refine And.intro (fun _ => ?_) (fun h => absurd rfl h)
    refine And.intro (fun h => hR 0 ?_) (fun h => hR 1 ?_)
    · have h := lc_eq.mp h
      show (0 : Int64).toInt = (if x.toInt = y.toInt then 0 else 1)
      rw [if_pos h]
      rfl
    · have h : ¬ x.toInt = y.toInt := fun z => h (lc_eq.mpr z)
      show (1 : Int64).toInt = (if x.toInt = y.toInt then 0 else 1)
      rw [if_neg h]
      rfl
  · refine And.intro (fun h => absurd h (by decide)) (fun _ => ?_)
    refine And.intro (fun h => absurd h (by decide)) (fun _ => ?_)
    refine And.intro (fun h => absurd h (by decide)) (fun _ => ?_)
    refine And.intro (fun h => absurd h (by decide)) (fun _ => ?_)
    refine And.intro (fun h => absurd h (by decide)) (fun _ => ?_)
    refine And.intro (fun h => absurd h (by decide)) (fun _ => ?_)
    refine And.intro (fun h => absurd h (by decide)) (fun _ => ?_)
    refine And.intro (fun h => absurd h (by decide)) (fun _ => ?_)
    refine And.intro (fun _ => ?_) (fun h => absurd rfl h)
    refine And.intro (fun h => hR 0 ?_) (fun h => hR 1 ?_)
    · have h := lc_gt.mp h
      show (0 : Int64).toInt = (if x.toInt ≤ y.toInt then 1 else 0)
      rw [if_neg (by omega)]
      rfl
    · have h : ¬ (y.toInt < x.toInt) := fun z => h (lc_gt.mpr z)
      show (1 : Int64).toInt = (if x.toInt ≤ y.toInt then 1 else 0)
      rw [if_pos (by omega)]
      rfl
  · refine And.intro (fun h => absurd h (by decide)) (fun _ => ?_)
    refine And.intro (fun h => absurd h (by decide)) (fun _ => ?_)
    refine And.intro (fun h => absurd h (by decide)) (fun _ => ?_)
    refine And.intro (fun h => absurd h (by decide)) (fun _ => ?_)
    refine And.intro (fun h => absurd h (by decide)) (fun _ => ?_)
    refine And.intro (fun h => absurd h (by decide)) (fun _ => ?_)
    refine And.intro (fun h => absurd h (by decide)) (fun _ => ?_)
    refine And.intro (fun h => absurd h (by decide)) (fun _ => ?_)
    refine And.intro (fun h => absurd h (by decide)) (fun _ => ?_)
    refine And.intro (fun _ => ?_) (fun h => absurd rfl h)
    refine And.intro (fun h => hR 0 ?_) (fun h => hR 1 ?_)
    · have h := lc_lt.mp h
      show (0 : Int64).toInt = (if y.toInt ≤ x.toInt then 1 else 0)
      rw [if_neg (by omega)]
      rfl
    · have h : ¬ (x.toInt < y.toInt) := fun z => h (lc_lt.mpr z)
      show (1 : Int64).toInt = (if y.toInt ≤ x.toInt then 1 else 0)
      rw [if_pos (by omega)]
      rfl
  · refine And.intro (fun h => absurd h (by decide)) (fun _ => ?_)
    refine And.intro (fun h => absurd h (by decide)) (fun _ => ?_)
    refine And.intro (fun h => absurd h (by decide)) (fun _ => ?_)
    refine And.intro (fun h => absurd h (by decide)) (fun _ => ?_)
    refine And.intro (fun h => absurd h (by decide)) (fun _ => ?_)
    refine And.intro (fun h => absurd h (by decide)) (fun _ => ?_)
    refine And.intro (fun h => absurd h (by decide)) (fun _ => ?_)
    refine And.intro (fun h => absurd h (by decide)) (fun _ => ?_)
    refine And.intro (fun h => absurd h (by decide)) (fun _ => ?_)
    refine And.intro (fun h => absurd h (by decide)) (fun _ => ?_)
    refine And.intro (fun _ => ?_) (fun h => absurd rfl h)
    refine hR (x * y) ?_
    have b := mul_b hx hy
    rw [l64_mul (by omega) (by omega)]
    rfl
  · refine And.intro (fun h => absurd h (by decide)) (fun _ => ?_)
    refine And.intro (fun h => absurd h (by decide)) (fun _ => ?_)
    refine And.intro (fun h => absurd h (by decide)) (fun _ => ?_)
    refine And.intro (fun h => absurd h (by decide)) (fun _ => ?_)
    refine And.intro (fun h => absurd h (by decide)) (fun _ => ?_)
    refine And.intro (fun h => absurd h (by decide)) (fun _ => ?_)
    refine And.intro (fun h => absurd h (by decide)) (fun _ => ?_)
    refine And.intro (fun h => absurd h (by decide)) (fun _ => ?_)
    refine And.intro (fun h => absurd h (by decide)) (fun _ => ?_)
    refine And.intro (fun h => absurd h (by decide)) (fun _ => ?_)
    refine And.intro (fun h => absurd h (by decide)) (fun _ => ?_)
    refine And.intro (fun h => hR 0 ?_) (fun h => hR 1 ?_)
    · have h := lc_le.mp h
      have h : (x + y).toInt ≤ 0 := by
        have z : (0 : Int64).toInt = 0 := i64_0
        exact h
      rw [l64_add (by omega) (by omega)] at h
      show (0 : Int64).toInt = (if 0 < x.toInt + y.toInt then 1 else 0)
      rw [if_neg (by omega)]
      rfl
    · have h : ¬ (x + y).toInt ≤ (0 : Int64).toInt := fun z => h (lc_le.mpr z)
      rw [i64_0, l64_add (by omega) (by omega)] at h
      show (1 : Int64).toInt = (if 0 < x.toInt + y.toInt then 1 else 0)
      rw [if_pos (by omega)]
      rfl
theorem bin_el {o : Odr} {t u : List Bool} {p : List Int} {nm : Nat → Int} (h : ((o.1 = 43 ∨ o.1 = 45 ∨ o.1 = 42 ∨ o.1 = 47) ∧ ∃ v, t = false :: false :: v ∧ u = false :: v) ∨ ((o.1 = 60 ∨ o.1 = 62 ∨ o.1 = 61 ∨ o.1 = 35 ∨ o.1 = 300 ∨ o.1 = 301) ∧ ∃ v, t = false :: false :: v ∧ u = true :: v) ∨ ((o.1 = 406 ∨ o.1 = 407) ∧ ∃ v, t = true :: true :: v ∧ u = true :: v)) (hV : VT t p) (h64 : t.length ≤ 64) : op2 o.1 ∧ ∃ y0 x0 q, p = y0 :: x0 :: q ∧ sm1 nm o p = wrk o.1 x0 y0 :: q ∧ inM x0 ∧ inM y0 ∧ (VT u (wrk o.1 x0 y0 :: q) ∧ u.length ≤ 64) := by
  have b01 : ∀ x : Int, x = 0 ∨ x = 1 → inM x := fun x hx => by
    rcases hx with e | e <;> rw [e] <;> exact ⟨by decide, by decide⟩
  rcases h with ⟨ho, v, e1, e2⟩ | ⟨ho, v, e1, e2⟩ | ⟨ho, v, e1, e2⟩
  · subst e1 e2
    obtain ⟨y, x, q, rfl, hV⟩ := VT_2 hV
    have hx : inM x := hV.2.1
    have hy : inM y := hV.1
    refine ⟨by unfold op2; omega, y, x, q, rfl, ?_, hx, hy, ⟨wrk_num ho hx, hV.2.2⟩, by simp only [List.length_cons] at h64 ⊢; omega⟩
    unfold sm1
    rcases ho with e | e | e | e <;> rw [e] <;> rfl
  · subst e1 e2
    obtain ⟨y, x, q, rfl, hV⟩ := VT_2 hV
    have hx : inM x := hV.2.1
    have hy : inM y := hV.1
    refine ⟨by unfold op2; omega, y, x, q, rfl, ?_, hx, hy, ⟨wrk_b01 ho, hV.2.2⟩, by simp only [List.length_cons] at h64 ⊢; omega⟩
    unfold sm1
    rcases ho with e | e | e | e | e | e <;> rw [e] <;> rfl
  · subst e1 e2
    obtain ⟨y, x, q, rfl, hV⟩ := VT_2 hV
    have hx : x = 0 ∨ x = 1 := hV.2.1
    have hy : y = 0 ∨ y = 1 := hV.1
    refine ⟨by unfold op2; omega, y, x, q, rfl, ?_, b01 x hx, b01 y hy, ⟨?_, hV.2.2⟩, by simp only [List.length_cons] at h64 ⊢; omega⟩
    · unfold sm1
      rcases ho with e | e <;> rw [e] <;> rfl
    · rcases ho with e | e <;> rw [e]
      · exact wrk_and hx hy
      · exact wrk_or hx hy
-- ===== the reference: what a law says =====
/-- the pile of longs; its top first -/
def PLr (r : Nat → Int64) : List Int → Prop
  | [] => True
  | x :: p => (r p.length).toInt = x ∧ PLr r p
theorem PLr.up {r r' : Nat → Int64} : ∀ {p : List Int}, PLr r p → (∀ i, i < p.length → r' i = r i) → PLr r' p
  | [], _, _ => trivial
  | x :: p, h, e => ⟨by rw [e p.length (by simp)]; exact h.1, PLr.up h.2 (fun i hi => e i (by simp only [List.length_cons]; omega))⟩
theorem updL_s {r : Nat → Int64} {i : Nat} {v : Int64} : vp_updL r i v i = v := by simp [vp_updL]
theorem updL_n {r : Nat → Int64} {i j : Nat} {v : Int64} (h : j ≠ i) : vp_updL r i v j = r j := by simp [vp_updL, h]
theorem PLr.put {r : Nat → Int64} {p : List Int} {v : Int64} {x : Int} {i : Nat} (h : PLr r p) (hi : i = p.length) (hv : v.toInt = x) : PLr (vp_updL r i v) (x :: p) := by
  subst hi
  exact ⟨by rw [updL_s]; exact hv, h.up (fun j hj => updL_n (by omega))⟩
/-- the orders from k on, and their end -/
def OR7 (I : XI) : Nat → List Odr → Prop
  | k, [] => I 77 k = 408
  | k, o :: e => I 77 k = nI o.1 ∧ (o.1 = 402 ∨ I 78 k = nI o.2) ∧ OR7 I (k + 1) e
/-- the names that law kk may use -/
def NMr (r : Nat → Int32) (kk : Nat) (nm : Nat → Int) : Prop := ∀ n, n ≤ 10 → myN n kk = true → (r n).toInt = nm n ∧ inM (nm n)
theorem nI_i64 {n : Nat} (h : n < 2 ^ 31) : (nI n).toInt64.toInt = (n : Int) := by rw [Int32.toInt_toInt64, nI_toInt h]
theorem VT_num {t : List Bool} {p : List Int} {x : Int} (h : VT t p) (hx : inM x) : VT (false :: t) (x :: p) := ⟨hx, h⟩
set_option maxRecDepth 100000 in
set_option maxHeartbeats 4000000 in
theorem ex_says_loop (l : Launch) (d f kk : Nat) (ru ta : Nat) (rs : List XO) (I : XI) (J0 : XJ) (Rp : XR) (nm : Nat → Int) (hnm : NMr (I 91) kk nm) (x : Int) (hR : ∀ (r : Int64) (J' : XJ), r.toInt = x → (∀ q, q ≠ 92 → J' q = J0 q) → Rp (some (.long r)) (shH ru ta rs) I J') : ∀ (e : List Odr) (k : Nat) (t : List Bool) (b : Bool) (p : List Int) (o : Option Value) (J : XJ), OR7 I k e → tyE kk e t = some [b] → VT t p → PLr (J 92) p → (∀ q, q ≠ 92 → J q = J0 q) → t.length ≤ 64 → k + e.length < 1600 → smE nm e p = [x] → xrun xxX12 (some .long) false false (shH ru ta rs).length 0 0 none l (d + 2) tX12_saysOf [4, 208] Rp (2 * e.length + 2) 4 (saysL f p.length k o) [] (shH ru ta rs) I J 0 0 := by
  intro e
  induction e with
  | nil =>
    intro k t b p o J hO hT hV hP hJ h64 hk hx
    have ec : (nI k).toNatClampNeg = k := nI_clamp (by omega)
    have hv : vp_in (nI k) 1600 := vp_in_nI (by simpa using hk) (by omega)
    have hx : p = [x] := hx
    subst hx
    have hO : I 77 k = 408 := hO
    have hc : I 77 (nI k).toNatClampNeg = 408 := by rw [ec, hO]
    refine xrun_step fun K hK => ?_
    refine And.intro hv ?_
    refine And.intro (fun _ => ?_) (fun h => absurd hc h)
    exact And.intro (vp_b (by decide)) (hR _ _ hP.1 hJ)
  | cons o1 e ih =>
    intro k t b p o J hO hT hV hP hJ h64 hk hx
    simp only [List.length_cons] at hk
    obtain ⟨hO1, hO2, hO3⟩ := hO
    have ec : (nI k).toNatClampNeg = k := nI_clamp (by omega)
    have hv : vp_in (nI k) 1600 := vp_in_nI (by omega) (by omega)
    have hl := hV.len
    obtain ⟨u, hu, hT2⟩ : ∃ u, tyo kk o1 t = some u ∧ tyE kk e u = some [b] := by
      unfold tyE at hT
      split at hT
      · rename_i u hu
        exact ⟨u, hu, hT⟩
      · cases hT
    rw [show 2 * (o1 :: e).length + 2 = (2 * e.length + 2) + 1 + 1 by simp only [List.length_cons]; omega]
    have nxt : ∀ (p' : List Int) (o : Option Value) (J' : XJ), sm1 nm o1 p = p' → VT u p' → PLr (J' 92) p' → (∀ q, q ≠ 92 → J' q = J q) → u.length ≤ 64 → xrun xxX12 (some .long) false false (shH ru ta rs).length 0 0 none l (d + 2) tX12_saysOf [4, 208] Rp (2 * e.length + 2 + 1) 208 (saysL f p'.length k o) [] (shH ru ta rs) I J' 0 0 := by
      intro p' o J' hp' hV' hP' hJ' hu64
      refine xrun_step fun K hK => ?_
      refine hK 4 [some (.ref 67), some (.int (nI f)), some (.int (nI p'.length)), some (.int (nI k + 1)), o] [] (shH ru ta rs) I J' 0 0 ?_
      rw [nI_1]
      exact ih (k + 1) u b p' o J' hO3 hT2 hV' hP' (fun q hq => (hJ' q hq).trans (hJ q hq)) hu64 (by omega) (by rw [← hp']; exact hx)
    have fr : ∀ (i : Nat) (v : Int64) (q : Nat), q ≠ 92 → uJ J 92 i v q = J q := fun i v q hq => uJ_ne hq
    refine xrun_step fun K hK => ?_
    refine And.intro hv ?_
    rcases tyo_el hu with ⟨ho, h1, h2, h3⟩ | ⟨ho, h1, h2, h3, h4⟩ | ⟨ho, v, h1, h2⟩ | ⟨ho, h0, v, h1, h2⟩ | ⟨ho, v, h1, h2⟩ | hbin
    · -- a number
      have hc : I 77 (nI k).toNatClampNeg = 400 := by rw [ec, hO1, ho]; rfl
      have hw : vp_in (nI p.length) 200 := vp_in_nI (by omega) (by omega)
      have e2 : I 78 k = nI o1.2 := hO2.resolve_left (by omega)
      refine And.intro (fun z => absurd (hc.symm.trans z) (by decide)) (fun _ => ?_)
      refine And.intro hv ?_
      refine And.intro (fun _ => ?_) (fun z => absurd hc z)
      refine And.intro (fun z => absurd hc z) (fun _ => ?_)
      refine And.intro hv (And.intro hw ?_)
      refine hK 208 [some (.ref 67), some (.int (nI f)), some (.int (nI p.length + 1)), some (.int (nI k)), some (.int _)] [] (shH ru ta rs) I (uJ J 92 (nI p.length).toNatClampNeg (I 78 (nI k).toNatClampNeg).toInt64) 0 0 ?_
      rw [nI_1, nI_clamp (show p.length < 2 ^ 31 by omega), ec, e2]
      refine nxt ((o1.2 : Int) :: p) _ _ ?_ (by rw [h3]; exact ⟨⟨by omega, by omega⟩, hV⟩) ?_ (fr _ _) (by rw [h3, List.length_cons]; omega)
      · unfold sm1
        rw [ho]
        rfl
      · rw [uJ_eq]
        exact hP.put rfl (nI_i64 (by omega))
    · -- a name
      have hc : I 77 (nI k).toNatClampNeg = 401 := by rw [ec, hO1, ho]; rfl
      have hw : vp_in (nI p.length) 200 := vp_in_nI (by omega) (by omega)
      have e2 : I 78 k = nI o1.2 := hO2.resolve_left (by omega)
      have hn : vp_in (I 78 (nI k).toNatClampNeg) 11 := by
        rw [ec, e2]
        exact vp_in_nI (by omega) (by omega)
      have hm := hnm o1.2 h3 h2
      refine And.intro (fun z => absurd (hc.symm.trans z) (by decide)) (fun _ => ?_)
      refine And.intro hv ?_
      refine And.intro (fun z => absurd (hc.symm.trans z) (by decide)) (fun _ => ?_)
      refine And.intro (fun z => absurd hc z) (fun _ => ?_)
      refine And.intro (fun _ => ?_) (fun z => absurd (hc.symm.trans z) (by decide))
      refine And.intro hv (And.intro hn (And.intro hw ?_))
      refine hK 208 [some (.ref 67), some (.int (nI f)), some (.int (nI p.length + 1)), some (.int (nI k)), some (.int _)] [] (shH ru ta rs) I (uJ J 92 (nI p.length).toNatClampNeg (I 91 (I 78 (nI k).toNatClampNeg).toNatClampNeg).toInt64) 0 0 ?_
      rw [nI_1, nI_clamp (show p.length < 2 ^ 31 by omega), ec, e2, nI_clamp (show o1.2 < 2 ^ 31 by omega)]
      refine nxt (nm o1.2 :: p) _ _ ?_ (by rw [h4]; exact ⟨hm.2, hV⟩) ?_ (fr _ _) (by rw [h4, List.length_cons]; omega)
      · unfold sm1
        rw [ho]
        rfl
      · rw [uJ_eq]
        exact hP.put rfl (by rw [Int32.toInt_toInt64]; exact hm.1)
    · -- minus
      subst h1
      obtain ⟨z0, q, rfl, hVq⟩ := VT_1 hV
      have hz := hP.1
      have hin : inM z0 := hVq.1
      have hw : vp_in (nI (z0 :: q).length - 1) 200 := by
        rw [show nI (z0 :: q).length - 1 = nI q.length from nI_pred q.length]
        exact vp_in_nI (by simp only [List.length_cons] at hl h64; omega) (by simp only [List.length_cons] at hl h64; omega)
      have ei : (nI (z0 :: q).length - 1).toNatClampNeg = q.length := by
        rw [show nI (z0 :: q).length - 1 = nI q.length from nI_pred q.length]
        exact nI_clamp (by simp only [List.length_cons] at hl h64; omega)
      have hc : I 77 (nI k).toNatClampNeg = 402 := by rw [ec, hO1, ho]; rfl
      refine And.intro (fun z => absurd (hc.symm.trans z) (by decide)) (fun _ => ?_)
      refine And.intro hv ?_
      refine And.intro (fun z => absurd (hc.symm.trans z) (by decide)) (fun _ => ?_)
      refine And.intro (fun _ => ?_) (fun z => absurd (hc.symm.trans z) (by decide))
      refine And.intro (fun z => absurd hc z) (fun _ => ?_)
      refine And.intro hw (And.intro hw ?_)
      refine hK 208 (saysL f (z0 :: q).length k _) [] (shH ru ta rs) I (uJ J 92 (nI (z0 :: q).length - 1).toNatClampNeg (-(J 92 (nI (z0 :: q).length - 1).toNatClampNeg))) 0 0 ?_
      rw [ei]
      refine nxt (-z0 :: q) _ _ ?_ (by rw [h2]; exact ⟨⟨by have := hin.1; have := hin.2; omega, by have := hin.1; have := hin.2; omega⟩, hVq.2⟩) ?_ (fr _ _) (by rw [h2]; exact h64)
      · unfold sm1
        rw [ho]
        rfl
      · rw [uJ_eq]
        refine hP.2.put rfl ?_
        have h0 : (J 92 q.length).toInt = z0 := hz
        rw [Int64.toInt_neg, h0]
        exact Int.bmod_eq_of_le (by have := hin.1; have := hin.2; omega) (by have := hin.1; have := hin.2; omega)
    · -- part
      subst h1
      obtain ⟨z0, q, rfl, hVq⟩ := VT_1 hV
      have hz := hP.1
      have hin : inM z0 := hVq.1
      have e2 : I 78 k = nI o1.2 := hO2.resolve_left (by omega)
      have hw : vp_in (nI (z0 :: q).length - 1) 200 := by
        rw [show nI (z0 :: q).length - 1 = nI q.length from nI_pred q.length]
        exact vp_in_nI (by simp only [List.length_cons] at hl h64; omega) (by simp only [List.length_cons] at hl h64; omega)
      have ei : (nI (z0 :: q).length - 1).toNatClampNeg = q.length := by
        rw [show nI (z0 :: q).length - 1 = nI q.length from nI_pred q.length]
        exact nI_clamp (by simp only [List.length_cons] at hl h64; omega)
      have hc : I 77 (nI k).toNatClampNeg = 403 := by rw [ec, hO1, ho]; rfl
      refine And.intro (fun z => absurd (hc.symm.trans z) (by decide)) (fun _ => ?_)
      refine And.intro hv ?_
      refine And.intro (fun z => absurd (hc.symm.trans z) (by decide)) (fun _ => ?_)
      refine And.intro (fun _ => ?_) (fun z => absurd (hc.symm.trans z) (by decide))
      refine And.intro (fun _ => ?_) (fun z => absurd (hc.symm.trans z) (by decide))
      refine And.intro (fun z => absurd hc z) (fun _ => ?_)
      refine And.intro hw (And.intro hv (And.intro (show ¬ ((100 : Int64) = 0) by decide) (And.intro hw ?_)))
      refine hK 208 (saysL f (z0 :: q).length k _) [] (shH ru ta rs) I (uJ J 92 (nI (z0 :: q).length - 1).toNatClampNeg (J 92 (nI (z0 :: q).length - 1).toNatClampNeg * (I 78 (nI k).toNatClampNeg).toInt64 / 100)) 0 0 ?_
      rw [ei, ec, e2]
      refine nxt ((z0 * (o1.2 : Int)).tdiv 100 :: q) _ _ ?_ (by rw [h2]; exact ⟨part_in hin h0, hVq.2⟩) ?_ (fr _ _) (by rw [h2]; exact h64)
      · unfold sm1
        rw [ho]
        rfl
      · rw [uJ_eq]
        refine hP.2.put rfl ?_
        have h1 : (J 92 q.length).toInt = z0 := hz
        have h2 : (nI o1.2).toInt64.toInt = (o1.2 : Int) := nI_i64 (by omega)
        have hb := mul_b hin (show inM (o1.2 : Int) from ⟨by omega, by omega⟩)
        have h3 : (J 92 q.length * (nI o1.2).toInt64).toInt = z0 * (o1.2 : Int) := by
          rw [l64_mul (by rw [h1, h2]; omega) (by rw [h1, h2]; omega), h1, h2]
        rw [Int64.toInt_div_of_ne_right _ _ (by decide), h3]
        rfl
    · -- not
      subst h1
      obtain ⟨z0, q, rfl, hVq⟩ := VT_1 hV
      have hz := hP.1
      have hin : z0 = 0 ∨ z0 = 1 := hVq.1
      have hw : vp_in (nI (z0 :: q).length - 1) 200 := by
        rw [show nI (z0 :: q).length - 1 = nI q.length from nI_pred q.length]
        exact vp_in_nI (by simp only [List.length_cons] at hl h64; omega) (by simp only [List.length_cons] at hl h64; omega)
      have ei : (nI (z0 :: q).length - 1).toNatClampNeg = q.length := by
        rw [show nI (z0 :: q).length - 1 = nI q.length from nI_pred q.length]
        exact nI_clamp (by simp only [List.length_cons] at hl h64; omega)
      have hc : I 77 (nI k).toNatClampNeg = 405 := by rw [ec, hO1, ho]; rfl
      refine And.intro (fun z => absurd (hc.symm.trans z) (by decide)) (fun _ => ?_)
      refine And.intro hv ?_
      refine And.intro (fun z => absurd (hc.symm.trans z) (by decide)) (fun _ => ?_)
      refine And.intro (fun _ => ?_) (fun z => absurd (hc.symm.trans z) (by decide))
      refine And.intro (fun _ => ?_) (fun z => absurd (hc.symm.trans z) (by decide))
      refine And.intro (fun _ => ?_) (fun z => absurd (hc.symm.trans z) (by decide))
      refine And.intro (fun z => absurd hc z) (fun _ => ?_)
      refine And.intro hw (And.intro hw ?_)
      refine hK 208 (saysL f (z0 :: q).length k _) [] (shH ru ta rs) I (uJ J 92 (nI (z0 :: q).length - 1).toNatClampNeg (1 - J 92 (nI (z0 :: q).length - 1).toNatClampNeg)) 0 0 ?_
      rw [ei]
      refine nxt ((1 - z0) :: q) _ _ ?_ (by rw [h2]; exact ⟨by rcases hin with e | e <;> rw [e] <;> simp, hVq.2⟩) ?_ (fr _ _) (by rw [h2]; exact h64)
      · unfold sm1
        rw [ho]
        rfl
      · rw [uJ_eq]
        refine hP.2.put rfl ?_
        have h0 : (J 92 q.length).toInt = z0 := hz
        rw [l64_sub (by rw [i64_1, h0]; omega) (by rw [i64_1, h0]; omega), i64_1, h0]
    · -- two numbers become one
      obtain ⟨hop, y0, x0, q, rfl, hsm, hxi, hyi, hVu⟩ : op2 o1.1 ∧ ∃ y0 x0 q, p = y0 :: x0 :: q ∧ sm1 nm o1 p = wrk o1.1 x0 y0 :: q ∧ inM x0 ∧ inM y0 ∧ (VT u (wrk o1.1 x0 y0 :: q) ∧ u.length ≤ 64) := bin_el hbin hV h64
      have ho : ¬ (o1.1 = 400 ∨ o1.1 = 401 ∨ o1.1 = 402 ∨ o1.1 = 403 ∨ o1.1 = 405 ∨ o1.1 = 408) := by
        unfold op2 at hop
        omega
      have hb : o1.1 < 1000 := by
        unfold op2 at hop
        omega
      have hlen : (y0 :: x0 :: q).length = q.length + 2 := rfl
      have hl2 : q.length + 2 ≤ 64 := by
        simp only [List.length_cons] at hl
        omega
      have eo : I 77 (nI k).toNatClampNeg = nI o1.1 := by rw [ec, hO1]
      have ne : ∀ m : Nat, m < 1000 → ¬ o1.1 = m → ¬ I 77 (nI k).toNatClampNeg = nI m := fun m hm h z => h (nI_small (eo.symm.trans z) (by omega) (by omega))
      have e1 : nI (y0 :: x0 :: q).length + (-1) = nI (q.length + 1) := nI_m1 (by simp)
      have hw1 : vp_in (nI (y0 :: x0 :: q).length + (-1)) 200 := by
        rw [e1]
        exact vp_in_nI (by omega) (by omega)
      have e2 : nI (y0 :: x0 :: q).length + (-1) - 1 = nI q.length := by rw [e1]; exact nI_pred q.length
      have hw2 : vp_in (nI (y0 :: x0 :: q).length + (-1) - 1) 200 := by
        rw [e2]
        exact vp_in_nI (by omega) (by omega)
      refine And.intro (fun z => absurd z (ne 408 (by omega) (by omega))) (fun _ => ?_)
      refine And.intro hv ?_
      refine And.intro (fun z => absurd z (ne 400 (by omega) (by omega))) (fun _ => ?_)
      refine And.intro (fun _ => ?_) (fun z => absurd z (ne 401 (by omega) (by omega)))
      refine And.intro (fun _ => ?_) (fun z => absurd z (ne 402 (by omega) (by omega)))
      refine And.intro (fun _ => ?_) (fun z => absurd z (ne 403 (by omega) (by omega)))
      refine And.intro (fun _ => ?_) (fun z => absurd z (ne 405 (by omega) (by omega)))
      refine And.intro hw2 (And.intro hw1 ?_)
      have c1 : (nI (y0 :: x0 :: q).length + (-1)).toNatClampNeg = q.length + 1 := by rw [e1]; exact nI_clamp (by omega)
      have c2 : (nI (y0 :: x0 :: q).length + (-1) - 1).toNatClampNeg = q.length := by rw [e2]; exact nI_clamp (by omega)
      have hy : (J 92 (q.length + 1)).toInt = y0 := hP.1
      have hxx : (J 92 q.length).toInt = x0 := hP.2.1
      refine (show xm l (d + 2) 0 0 mX12_worked [.int (I 77 (nI k).toNatClampNeg), .long (J 92 (nI (y0 :: x0 :: q).length + (-1) - 1).toNatClampNeg), .long (J 92 (nI (y0 :: x0 :: q).length + (-1)).toNatClampNeg)] (shH ru ta rs) I J _ from ?_)
      rw [eo, c1, c2]
      refine ex_worked l d o1.1 hop (J 92 q.length) (J 92 (q.length + 1)) (by rw [hxx]; exact hxi) (by rw [hy]; exact hyi) _ _ _ _ (fun r hr => ?_)
      refine And.intro hw2 ?_
      refine hK 208 [some (.ref 67), some (.int (nI f)), some (.int (nI (y0 :: x0 :: q).length + (-1))), some (.int (nI k)), some (.int _)] [] (shH ru ta rs) I (uJ J 92 (nI (y0 :: x0 :: q).length + (-1) - 1).toNatClampNeg r) 0 0 ?_
      rw [c2, e1]
      refine nxt (wrk o1.1 x0 y0 :: q) _ _ hsm hVu.1 ?_ (fr _ _) hVu.2
      rw [uJ_eq]
      exact hP.2.2.put rfl (by rw [hr, hxx, hy])
set_option maxRecDepth 100000 in
/-- what the orders from f on say -/
theorem ex_says (l : Launch) (d f kk : Nat) (ru ta : Nat) (rs : List XO) (I : XI) (J : XJ) (Rp : XR) (nm : Nat → Int) (hnm : NMr (I 91) kk nm) (e : List Odr) (b : Bool) (x : Int) (hO : OR7 I f e) (hT : tyE kk e [] = some [b]) (hk : f + e.length < 1600) (hl : e.length ≤ 400) (hx : smE nm e [] = [x]) (hR : ∀ (r : Int64) (J' : XJ), r.toInt = x → (∀ q, q ≠ 92 → J' q = J q) → Rp (some (.long r)) (shH ru ta rs) I J') : xm l (d + 3) 0 0 mX12_saysOf [.ref 67, .int (nI f)] (shH ru ta rs) I J Rp := by
  refine xm_ofK (2 * e.length + 2) (X := xxX12) (t := tX12_saysOf) (stop := [4, 208]) (ini := false) xx12 pl12 rfl kX12_saysOf (fun h => by cases h) (Nat.le_of_ble_eq_true rfl) (fun K hK => ?_)
  exact hK 4 (saysL f 0 f none) [] _ _ _ _ _ (ex_says_loop l d f kk ru ta rs I J Rp nm hnm x hR e f [] b [] none J hO hT trivial trivial (fun _ _ => rfl) (by simp) hk hx)
end
