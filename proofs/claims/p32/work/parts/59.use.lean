-- ===== use and unmet of the reference =====
set_option maxRecDepth 100000 in
set_option maxHeartbeats 1000000 in
theorem hm_hour (l : Launch) (d : Nat) (ru ta : Nat) (rs : List XO) (I : XI) (J : XJ) (Rp : XR) (hs : shO CF (shH ru ta rs)) (hi : ivO CF [] I) (hq : QQ I) (hR : ∀ I' J', ivO CF [] I' → frO [91, 93] I I' → (I' 93 64 = I 93 64 + 1 ∨ I' 93 64 = 0) → Rp none (shH ru ta rs) I' J') : xm l (d + 11) 0 0 mX12_hourPasses [.ref 67] (shH ru ta rs) I J Rp := by
  refine xm_ofK 0 (X := xxX12) (t := tX12_hourPasses) (stop := []) (ini := false) xx12 pl12 rfl kX12_hourPasses (fun h => by cases h) (Nat.le_of_ble_eq_true rfl) (fun K hK => ?_)
  have v : ∀ k, k < 69 → vp_in (nI k) 69 := fun k hk => vp_in_nI hk (by omega)
  refine And.intro (v 64 (by omega)) (And.intro (v 64 (by omega)) ?_)
  refine And.intro (fun h => absurd h (by decide)) (fun _ => And.intro (v 12 (by omega)) ?_)
  refine And.intro (fun h => absurd h (by decide)) (fun _ => And.intro (v 13 (by omega)) ?_)
  refine And.intro (fun h => absurd h (by decide)) (fun _ => And.intro (v 14 (by omega)) ?_)
  refine And.intro (fun h => absurd h (by decide)) (fun _ => And.intro (v 15 (by omega)) ?_)
  refine And.intro (fun _ => ?_) (fun h => absurd (by decide) h)
  have hi2 : ivO CF [] (uI (uI (uI (uI (uI I 93 64 (I 93 64 + 1)) 93 12 0) 93 13 0) 93 14 0) 93 15 0) := iv_93f (iv_93f (iv_93f (iv_93f (iv_93f hi (by omega)) (by omega)) (by omega)) (by omega)) (by omega)
  have hf2 : frO [91, 93] I (uI (uI (uI (uI (uI I 93 64 (I 93 64 + 1)) 93 12 0) 93 13 0) 93 14 0) 93 15 0) := fr_93 rfl (fr_93 rfl (fr_93 rfl (fr_93 rfl (fr_93 rfl (fun _ _ => rfl)))))
  refine And.intro (v 64 (by omega)) ?_
  have hh : (uI (uI (uI (uI (uI I 93 64 (I 93 64 + 1)) 93 12 0) 93 13 0) 93 14 0) 93 15 0) 93 64 = I 93 64 + 1 := by
    rw [uI_atC, uI_atC, uI_atC, uI_atC, uI_atC]
    rfl
  refine And.intro (fun _ => hR (uI (uI (uI (uI (uI I 93 64 (I 93 64 + 1)) 93 12 0) 93 13 0) 93 14 0) 93 15 0) J hi2 hf2 (Or.inl hh)) (fun _ => ?_)
  refine ct_X12_dayBegins_0 l d (shH ru ta rs) (uI (uI (uI (uI (uI I 93 64 (I 93 64 + 1)) 93 12 0) 93 13 0) 93 14 0) 93 15 0) J [.ref 67] _ ⟨by decide, trivial⟩ (fun e he => ?_) hs hi2 (qp_of (ms := [91, 93]) rfl hq hf2) ?_
  · rcases List.mem_cons.mp he with rfl | he
    · exact inI_fr _
    · rw [List.mem_singleton.mp he]
      exact inI_fr _
  intro v3 sh3 I3 J3 b1 b2 b3 bQ b4 b5
  have e1 := b2 rfl
  subst e1
  obtain ⟨P3, hP3, hp3⟩ := b5
  rw [List.mem_singleton.mp hP3] at hp3
  have ev3 : v3 = none := hp3.2.1
  subst ev3
  have hz : inI (0, 0) (I3 93 64).toInt := hp3.2.2 _ (List.mem_cons_of_mem _ List.mem_cons_self)
  exact hR I3 J3 b3 (fr_tr (ns := [91, 93]) rfl hf2 b4) (Or.inr (Int32.toInt_inj.mp (by rw [i32_0]; exact Int.le_antisymm hz.2 hz.1)))
set_option maxRecDepth 100000 in
set_option maxHeartbeats 1000000 in
theorem un_loop (l : Launch) (d : Nat) (ru ta : Nat) (rs : List XO) (I : XI) (Rp : XR) (hi : ivO CF [] I) (hR : ∀ (r : Int32) (I' : XI) (J' : XJ), inI (-1, 7) r.toInt → lens I' → outW I I' → Rp (some (.int r)) (shH ru ta rs) I' J') : ∀ (m k n : Nat) (o2 : Option Value) (I' : XI) (J' : XJ), k + m = 8 → m < n → lens I' → outW I I' → xrun xxX12 (some .int) false false (shH ru ta rs).length 0 0 none l (d + 3) tX12_unmetToday [2] Rp n 2 [some (.ref 67), some (.int (nI k)), o2] [] (shH ru ta rs) I' J' 0 0 := by
  have hN : inI (0, 8) (I 68 6).toInt := hi 68 6 rfl
  have v : ∀ k, k < 2200 → vp_in (nI k) 2200 := fun k hk => vp_in_nI hk (by omega)
  intro m
  induction m with
  | zero =>
    intro k n o2 I' J' hk hn hL ho
    obtain ⟨n, rfl⟩ : ∃ n', n = n' + 1 := ⟨n - 1, by omega⟩
    have hk : k = 8 := by omega
    subst hk
    refine xrun_step fun K hK => ?_
    refine And.intro (v 6 (by omega)) (And.intro (fun _ => hR (-1) I' J' ⟨by decide, by decide⟩ hL ho) (fun h => ?_))
    replace h : ¬ I' 68 6 ≤ nI 8 := h
    rw [ho.1 68 (by decide)] at h
    exact absurd (Int32.le_iff_toInt_le.mpr hN.2) h
  | succ m ih =>
    intro k n o2 I' J' hk hn hL ho
    obtain ⟨n, rfl⟩ : ∃ n', n = n' + 1 := ⟨n - 1, by omega⟩
    have e1 : nI 42 + nI 2 * nI k = nI (42 + 2 * k) := by rw [nI_mul, nI_add]
    have e2 : nI 42 + nI 2 * nI k + nI 1 = nI (42 + 2 * k + 1) := by rw [nI_mul, nI_add, nI_add]
    have w1 : vp_in (nI 42 + nI 2 * nI k) 2200 := by rw [e1]; exact v _ (by omega)
    have w2 : vp_in (nI 42 + nI 2 * nI k + nI 1) 2200 := by rw [e2]; exact v _ (by omega)
    have next : ∀ (o : Option Value) (I2 : XI) (J2 : XJ), lens I2 → outW I I2 → xrun xxX12 (some .int) false false (shH ru ta rs).length 0 0 none l (d + 3) tX12_unmetToday [2] Rp n 2 [some (.ref 67), some (.int (nI k + 1)), o] [] (shH ru ta rs) I2 J2 0 0 := by
      intro o I2 J2 h1 h2
      rw [nI_1]
      exact ih (k + 1) n o I2 J2 (by omega) (by omega) h1 h2
    refine xrun_step fun K hK => ?_
    refine And.intro (v 6 (by omega)) (And.intro (fun _ => hR (-1) I' J' ⟨by decide, by decide⟩ hL ho) (fun _ => ?_))
    refine And.intro w1 (And.intro (vp_in_nI (N := 69) (n := 65) (by omega) (by omega)) (And.intro (fun _ => ?_) (fun _ => And.intro w2 ?_)))
    · exact hK 2 [some (.ref 67), some (.int (nI k + 1)), o2] [] (shH ru ta rs) I' J' 0 0 (next o2 I' J' hL ho)
    · refine hm_feetInAll l (d + 2) ru ta rs I' J' _ hL (fun r hr => ?_)
      refine And.intro (fun hge => ?_) (fun _ => ?_)
      · refine hm_usesNow l d _ (-1) ru ta rs I' J' _ hL (by rw [← hr]; exact Int32.le_iff_toInt_le.mp hge) (fun I4 J4 u1 u2 => ?_)
        have ho4 : outW I I4 := ⟨fun p hp => by rw [u2.1 p hp]; exact ho.1 p hp, fun k hk => by rw [u2.2 k hk]; exact ho.2 k hk⟩
        exact hK 2 [some (.ref 67), some (.int (nI k + 1)), some (.int (I' 68 (nI 42 + nI 2 * nI k + nI 1).toNatClampNeg))] [] (shH ru ta rs) I4 J4 0 0 (next _ I4 J4 u1 ho4)
      · refine hR (nI k) I' J' ?_ hL ho
        rw [nI_toInt (by omega)]
        exact ⟨by show (-1 : Int) ≤ (k : Int); omega, by show (k : Int) ≤ 7; omega⟩
set_option maxRecDepth 100000 in
theorem hm_unmetToday (l : Launch) (d : Nat) (ru ta : Nat) (rs : List XO) (I : XI) (J : XJ) (Rp : XR) (hi : ivO CF [] I) (hR : ∀ (r : Int32) (I' : XI) (J' : XJ), inI (-1, 7) r.toInt → lens I' → outW I I' → Rp (some (.int r)) (shH ru ta rs) I' J') : xm l (d + 4) 0 0 mX12_unmetToday [.ref 67] (shH ru ta rs) I J Rp := by
  refine xm_ofK 9 (X := xxX12) (t := tX12_unmetToday) (stop := [2]) (ini := false) xx12 pl12 rfl kX12_unmetToday (fun h => by cases h) (Nat.le_of_ble_eq_true rfl) (fun K hK => ?_)
  exact hK 2 [some (.ref 67), some (.int (nI 0)), none] [] (shH ru ta rs) I J 0 0 (un_loop l d ru ta rs I Rp hi hR 8 0 9 none I J rfl (by omega) (lens_of hi) ⟨fun _ _ => rfl, fun _ _ => rfl⟩)
/-- how many hours at most until the hour is 0 -/
def hMu (x : Int32) : Nat := 4294967296 - x.toUInt32.toNat
theorem hMu_1 (x : Int32) (h : ¬ x + 1 = 0) : hMu (x + 1) < hMu x := by
  have h1 := x.toUInt32.toNat_lt
  have h2 : (x + 1).toUInt32.toNat = (x.toUInt32.toNat + 1) % 4294967296 := by
    rw [Int32.toUInt32_add, UInt32.toNat_add]
    rfl
  have h3 : x.toUInt32.toNat + 1 ≠ 4294967296 := by
    intro e
    apply h
    rw [e] at h2
    have : (x + 1).toUInt32 = (0 : Int32).toUInt32 := UInt32.toNat_inj.mp (by rw [h2]; rfl)
    refine Int32.toBitVec_inj.mp ?_
    show (x + 1).toUInt32.toBitVec = (0 : Int32).toUInt32.toBitVec
    rw [this]
  unfold hMu
  rw [h2, Nat.mod_eq_of_lt (by omega)]
  omega
theorem hMu_0 : hMu 0 = 4294967296 := by decide
set_option maxRecDepth 100000 in
set_option maxHeartbeats 1000000 in
theorem unm_loop (l : Launch) (d : Nat) (x : Int32) (hx : 1 ≤ x.toInt ∧ x.toInt ≤ 20) (ru ta : Nat) (rs : List XO) (I0 : XI) (hs : shO CF (shH ru ta rs)) (hq : QQ I0) (Rp : XR) (hR : ∀ (r : Int32) (I' : XI) (J' : XJ), inI (-1, 7) r.toInt → ivO CF [] I' → frO [91, 93] I0 I' → Rp (some (.int r)) (shH ru ta rs) I' J') : ∀ (m n k : Nat) (o3 : Option Value) (I : XI) (J : XJ), (20 - k) * 4294967296 + hMu (I 93 64) ≤ m → k ≤ 20 → m < n → ivO CF [] I → frO [91, 93] I0 I → xrun xxX12 (some .int) false false (shH ru ta rs).length 0 0 none l (d + 29) tX12_unmet [18] Rp n 18 [some (.ref 67), some (.int x), some (.int (nI k)), o3] [] (shH ru ta rs) I J 0 0 := by
  have hpos : ∀ y : Int32, 1 ≤ hMu y := fun y => by
    have := y.toUInt32.toNat_lt
    unfold hMu
    omega
  intro m
  induction m using Nat.strongRecOn with
  | ind m ih =>
    intro n k o3 I J hm hk hn hi hf
    have hp := hpos (I 93 64)
    obtain ⟨n, rfl⟩ : ∃ n', n = n' + 1 := ⟨n - 1, by omega⟩
    refine xrun_step fun K hK => ?_
    refine And.intro (fun _ => hR (-1) I J ⟨by decide, by decide⟩ hi hf) (fun hlt => ?_)
    have hkx : k < 20 := by
      have z : ¬ x.toInt ≤ (nI k).toInt := fun z => hlt (Int32.le_iff_toInt_le.mpr z)
      rw [nI_toInt (by omega)] at z
      omega
    refine ct_X12_canPass_0 l (d + 28) (shH ru ta rs) I J [.ref 67] _ ⟨by decide, trivial⟩ (fun e he => by cases he) hs hi (qp_of (ms := [91, 93]) rfl hq hf) ?_
    intro v sh' I1 J1 g1 g2 g3 gQ g4 g5
    have e1 := g2 rfl
    subst e1
    have e2 : I1 = I := funext fun p => g4 p rfl
    subst e2
    obtain ⟨P, hP, hp2⟩ := g5
    have hr : ∃ x, v = some (.int x) := by
      rcases List.mem_cons.mp hP with rfl | hP
      · obtain ⟨x, hx, _⟩ : ∃ x, v = some (.int x) ∧ inI (1, 1) x.toInt := hp2.2.1
        exact ⟨x, hx⟩
      · rw [List.mem_singleton.mp hP] at hp2
        obtain ⟨x, hx, _⟩ : ∃ x, v = some (.int x) ∧ inI (0, 0) x.toInt := hp2.2.1
        exact ⟨x, hx⟩
    obtain ⟨c, rfl⟩ := hr
    refine And.intro (fun _ => hR (-1) I1 J1 ⟨by decide, by decide⟩ hi hf) (fun _ => ?_)
    refine hm_hour l (d + 18) ru ta rs I1 J1 _ hs hi (qp_of (ms := [91, 93]) rfl hq hf) (fun I2 J2 a1 a2 a3 => ?_)
    have f2 : frO [91, 93] I0 I2 := fr_tr (ns := [91, 93]) rfl hf a2
    refine And.intro (vp_in_nI (N := 69) (n := 64) (by omega) (by omega)) (And.intro (fun hz => ?_) (fun hz => ?_))
    · replace hz : ¬ I2 93 64 = 0 := hz
      have e3 : I2 93 64 = I1 93 64 + 1 := by
        rcases a3 with y | y
        · exact y
        · exact absurd y hz
      have hl := hMu_1 (I1 93 64) (by rw [← e3]; exact hz)
      rw [← e3] at hl
      exact hK 18 [some (.ref 67), some (.int x), some (.int (nI k)), o3] [] (shH ru ta rs) I2 J2 0 0 (ih (m - 1) (by omega) n k o3 I2 J2 (by omega) hk (by omega) a1 f2)
    · replace hz : I2 93 64 = 0 := hz
      refine hm_unmetToday l (d + 25) ru ta rs I2 J2 _ a1 (fun r I3 J3 b1 b2 b3 => ?_)
      have h3 := iv_out a1 b2 b3
      have f3 : frO [91, 93] I0 I3 := fr_out rfl f2 b3
      have e4 : I3 93 64 = 0 := by rw [b3.2 64 (by omega)]; exact hz
      refine And.intro (fun _ => ?_) (fun _ => hR r I3 J3 b1 h3 f3)
      have k1 : k + 1 ≤ 20 := by omega
      have k2 : m - 1 < n := by omega
      have e6 : 20 - k = (20 - (k + 1)) + 1 := by omega
      have hm2 : (20 - (k + 1)) * 4294967296 + 4294967296 + hMu (I1 93 64) ≤ m := by
        rw [e6, Nat.add_mul, Nat.one_mul] at hm
        exact hm
      have hm3 : (20 - (k + 1)) * 4294967296 + 4294967296 ≤ m - 1 := Nat.le_sub_of_add_le (Nat.le_trans (Nat.add_le_add_left (hpos _) _) hm2)
      have y := ih (m - 1) (by omega) n (k + 1) (some (.int r)) I3 J3 (by rw [e4, hMu_0]; exact hm3) k1 k2 h3 f3
      rw [← nI_1 k] at y
      exact hK 18 [some (.ref 67), some (.int x), some (.int (nI k + 1)), some (.int r)] [] (shH ru ta rs) I3 J3 0 0 y
set_option maxRecDepth 100000 in
theorem ct_X12_unmet_0 : ctrO QQ CF ck_X12_unmet_0 mX12_unmet := by
  intro l d sh I J as Rp ha hce hs hi hq hR
  obtain ⟨x, rfl, _⟩ := ag1i ha
  obtain ⟨ru, ta, rs, _, _, rfl⟩ := shX hs
  have fin : ∀ (r : Int32) (I' : XI) (J' : XJ), inI (-1, 7) r.toInt → ivO CF [] I' → frO [91, 93] I I' → Rp (some (.int r)) (shH ru ta rs) I' J' := fun r I' J' h0 h1 h3 => hR _ _ I' J' hs (fun _ => rfl) h1 (qp_of (ms := [91, 93]) rfl hq h3) h3 ⟨_, List.mem_cons_self, one_post ha ⟨r, rfl, h0⟩⟩
  show xm l (d + 29 + 1) 0 0 mX12_unmet [.ref 67, .int x] (shH ru ta rs) I J Rp
  refine xm_ofK 100000000000 (X := xxX12) (t := tX12_unmet) (stop := [18]) (ini := false) xx12 pl12 rfl kX12_unmet (fun h => by cases h) (Nat.le_of_ble_eq_true rfl) (fun K hK => ?_)
  by_cases c1 : 1 ≤ x ∧ x ≤ 20
  · refine m_in_t l (d + 28) x 1 20 _ _ _ _ c1.1 c1.2 ?_
    refine And.intro (fun _ => ?_) (fun h => absurd h (by decide))
    refine ct_X12_laysNow_0 l (d + 28) (shH ru ta rs) I J [.ref 67] _ ⟨by decide, trivial⟩ (fun e he => by cases he) hs hi hq ?_
    intro v2 sh2 I2 J2 a1 a2 a3 aQ a4 a5
    have e1 := a2 rfl
    subst e1
    obtain ⟨P2, hP2, hp2⟩ := a5
    rw [List.mem_singleton.mp hP2] at hp2
    have ev2 : v2 = none := hp2.2.1
    subst ev2
    have hx : 1 ≤ x.toInt ∧ x.toInt ≤ 20 := ⟨Int32.le_iff_toInt_le.mp c1.1, Int32.le_iff_toInt_le.mp c1.2⟩
    have hb : hMu (I2 93 64) ≤ 4294967296 := by unfold hMu; omega
    exact hK 18 [some (.ref 67), some (.int x), some (.int (nI 0)), none] [] (shH ru ta rs) I2 J2 0 0 (unm_loop l d x hx ru ta rs I hs hq Rp fin 90194313216 100000000000 0 none I2 J2 (by omega) (by omega) (by omega) a3 (fr_tr (ms := [91, 93]) (ns := [93]) rfl (fun _ _ => rfl) a4))
  · refine m_in_f l (d + 28) x 1 20 _ _ _ _ c1 ?_
    exact And.intro (fun h => absurd rfl h) (fun _ => fin _ I J ⟨by decide, by decide⟩ hi (fun _ _ => rfl))
