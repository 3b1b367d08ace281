set_option maxRecDepth 100000 in
set_option maxHeartbeats 4000000 in
theorem rx_pt_loop (l : Launch) (d : Nat) (ru ta : Nat) (rs : List XO) (I : XI) (J : XJ) (Rp : XR) (Q : Tld) (L : Lws) (h : RE I Q L) (a : Nat) (ha : a < 1000) (W : Rw) (hR : ∀ (I' : XI) (J' : XJ), F93 I I' → I' 93 = W → Rp none (shH ru ta rs) I' J') : ∀ (m k n : Nat) (J : XJ) (I1 : XI), k + m = a → m < n → F93 I I1 → WR (I1 93) → ptR Q L m (I1 93) = W → ptr_ l d ru ta rs J Rp n a k I1 := by
  intro m
  induction m with
  | zero =>
    intro k n J I1 hk hn hf hw hE
    obtain ⟨n, rfl⟩ : ∃ n', n = n' + 1 := ⟨n - 1, by omega⟩
    have hk : k = a := by omega
    subst hk
    refine xrun_step fun K hK => ?_
    refine And.intro (fun _ => ?_) (fun z => absurd (Int32.le_refl _) z)
    exact hR I1 J hf hE
  | succ m ih =>
    intro k n J I1 hk hn hf hw hE
    obtain ⟨n, rfl⟩ : ∃ n', n = n' + 1 := ⟨n - 1, by omega⟩
    refine xrun_step fun K hK => ?_
    refine And.intro (fun z => absurd (show nI a ≤ nI k from z) (nI_ge (by omega) (by omega))) (fun _ => ?_)
    refine rx_canPass l (d + 11) ru ta rs I1 J _ (fun hc => ?_) (fun hc => ?_)
    · refine And.intro (fun z => absurd z (by decide)) (fun _ => ?_)
      have e : ptR Q L (m + 1) (I1 93) = ptR Q L m (hrR Q L (I1 93)) := if_pos hc
      refine rx_hourP l d ru ta rs I1 J _ Q L (h.keep hf) (fun e => hw.w0 hc e) (fun I2 J2 f2 e2 => ?_)
      refine hK 2 [some (.ref 67), some (.int (nI a)), some (.int (nI k + 1))] [] _ I2 J2 0 0 ?_
      rw [nI_1]
      refine ih (k + 1) n J2 I2 (by omega) (by omega) (hf.tr f2) ?_ ?_
      · rw [e2]
        exact hw.hr h.1.2.1 hc
      · rw [e2, ← e]
        exact hE
    · refine And.intro (fun _ => ?_) (fun z => absurd rfl z)
      have e : ptR Q L (m + 1) (I1 93) = I1 93 := if_neg (by rw [hc]; decide)
      exact hR I1 J hf (by rw [← e]; exact hE)
