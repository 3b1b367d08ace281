-- ===== intrinsics; conditions =====
section ABSIN
variable {C : AC} {Wm : List Nat} {Wf : Bool} {sh0 : List XO} {I0 : XI} {R0 R : List Int} {S S' : AS} {lc : List (Option Value)} {st : List Value} {sh : List XO} {I : XI} {J : XJ} {k : XP} {X : XX} {al : Bool} {n0 mc ms : Nat}
theorem ble3 {a b c : Bool} (h1 : a = true) (h2 : b = true) (h3 : c = true) : (a && b && c) = true := by rw [h1, h2, h3]; rfl
theorem xcs_ble {T : List AV} {r : List Value} (hT : stO R T r) (h : Nat.ble (aCs T) 8 = true) : Nat.ble (xcs r) 8 = true := Nat.ble_eq.mpr (Nat.le_trans (aCs_ok hT) (Nat.ble_eq.mp h))
theorem min_in {a b : Int × Int} {x y : Int32} (hx : inI a x.toInt) (hy : inI b y.toInt) : inI (imin a.1 b.1, imin a.2 b.2) (if y < x then y else x).toInt := by
  have m1 := imin_le (a := a.1) (b := b.1)
  have e : (y < x) ↔ y.toInt < x.toInt := Int32.lt_iff_toInt_lt
  have k2 : imin a.2 b.2 = a.2 ∨ imin a.2 b.2 = b.2 := by
    unfold imin
    split
    · exact Or.inl rfl
    · exact Or.inr rfl
  have := hx.1
  have := hx.2
  have := hy.1
  have := hy.2
  unfold inI
  dsimp only
  by_cases hl : y < x
  · have hl2 := e.mp hl
    rw [if_pos hl]
    rcases k2 with z | z <;> rw [z] <;> omega
  · have hl2 : ¬ y.toInt < x.toInt := fun z => hl (e.mpr z)
    rw [if_neg hl]
    rcases k2 with z | z <;> rw [z] <;> omega
theorem max_in {a b : Int × Int} {x y : Int32} (hx : inI a x.toInt) (hy : inI b y.toInt) : inI (imax a.1 b.1, imax a.2 b.2) (if x < y then y else x).toInt := by
  have m1 := imax_ge (a := a.2) (b := b.2)
  have e : (x < y) ↔ x.toInt < y.toInt := Int32.lt_iff_toInt_lt
  have k2 : imax a.1 b.1 = a.1 ∨ imax a.1 b.1 = b.1 := by
    unfold imax
    split
    · exact Or.inr rfl
    · exact Or.inl rfl
  have := hx.1
  have := hx.2
  have := hy.1
  have := hy.2
  unfold inI
  dsimp only
  by_cases hl : x < y
  · have hl2 := e.mp hl
    rw [if_pos hl]
    rcases k2 with z | z <;> rw [z] <;> omega
  · have hl2 : ¬ x.toInt < y.toInt := fun z => hl (e.mpr z)
    rw [if_neg hl]
    rcases k2 with z | z <;> rw [z] <;> omega
theorem nneg_of {x : Int32} (h : 0 ≤ x.toInt) : ¬ x < 0 := by
  intro z
  have := Int32.lt_iff_toInt_lt.mp z
  have e : (0 : Int32).toInt = 0 := by decide
  omega
theorem aIn_ok {idx : Nat} {e : Nat × XM × Nat × (Nat × Nat) × List Nat} (he : xlk X.2.2.2.1 idx = some e) (h : aIn C Wm e.1 S = some S') (hg : ga C Wm Wf sh0 I0 R0 R S lc st sh I) (hk : gk C Wm Wf sh0 I0 R0 S' k) : xs X false al n0 mc ms none (.invokestatic idx) lc st sh I J 0 0 k := by
  show xso (xlk X.2.2.2.1 idx) _
  rw [he]
  unfold xso
  dsimp only
  generalize e.1 = t at h
  unfold aIn at h
  split at h
  · refine a2_ok h hg (fun q r T x y rest hf hx hy hT => ?_)
    split at hf
    · rename_i a b ea eb e8
      cases hf
      exact xb_mk (ble3 (xcs_ble hT e8) (Nat.ble_eq.mpr (Nat.zero_le _)) (Nat.ble_eq.mpr (Nat.zero_le _))) (hk _ _ _ _ _ _ (ga_fr hg hT (min_in (iv_ok hg.1.1 hx ea) (iv_ok hg.1.1 hy eb))))
    · cases hf
  · refine a2_ok h hg (fun q r T x y rest hf hx hy hT => ?_)
    split at hf
    · rename_i a b ea eb e8
      cases hf
      exact xb_mk (ble3 (xcs_ble hT e8) (Nat.ble_eq.mpr (Nat.zero_le _)) (Nat.ble_eq.mpr (Nat.zero_le _))) (hk _ _ _ _ _ _ (ga_fr hg hT (max_in (iv_ok hg.1.1 hx ea) (iv_ok hg.1.1 hy eb))))
    · cases hf
  · refine a1_ok h hg (fun q T x rest hf hx hT => ?_)
    split at hf
    · rename_i e8
      cases hf
      exact xb_mk (ble3 (xcs_ble hT e8) (Nat.ble_eq.mpr (Nat.zero_le _)) (Nat.ble_eq.mpr (Nat.zero_le _))) (hk _ _ _ _ _ _ (ga_fr hg hT (inI_fr _)))
    · cases hf
  · refine l2_ok h hg (fun b T x y rest hf hb hT => ?_)
    split at hf
    · rename_i e8
      cases hf
      exact xb_mk (ble3 (xcs_ble hT e8) (Nat.ble_eq.mpr (Nat.zero_le _)) (Nat.ble_eq.mpr (Nat.zero_le _))) (hk _ _ _ _ _ _ (ga_pu hg hT ⟨_, rfl⟩))
    · cases hf
  · refine l2_ok h hg (fun b T x y rest hf hb hT => ?_)
    split at hf
    · rename_i e8
      cases hf
      exact xb_mk (ble3 (xcs_ble hT e8) (Nat.ble_eq.mpr (Nat.zero_le _)) (Nat.ble_eq.mpr (Nat.zero_le _))) (hk _ _ _ _ _ _ (ga_pu hg hT ⟨_, rfl⟩))
    · cases hf
  · split at h
    · rename_i n dp p1 sp p0 T es
      have hs := hg.2.1.2
      rw [es] at hs
      obtain ⟨xn', r1, rfl, hn, hT1⟩ := stO_int hs
      obtain ⟨xd, r2, rfl, hd, hT2⟩ := stO_int hT1
      obtain ⟨q1, r3, rfl, hq1, hT3⟩ := stO_ref hT2
      obtain ⟨xsp, r4, rfl, hsp, hT4⟩ := stO_int hT3
      obtain ⟨q0, r5, rfl, hq0, hT5⟩ := stO_ref hT4
      have z1 := List.mem_singleton.mp hq1
      have z0 := List.mem_singleton.mp hq0
      subst z1 z0
      split at h
      · rename_i wn wd wsp l0 l1 en ed esp el0 el1
        split at h
        · rename_i eb
          simp only [Bool.and_eq_true] at eb
          obtain ⟨⟨⟨⟨⟨⟨⟨⟨⟨b1, b2⟩, b3⟩, b4⟩, b5⟩, b6⟩, b7⟩, b8⟩, b9⟩, b10⟩ := eb
          cases h
          have i1 := iv_ok hg.1.1 hn en
          have i2 := iv_ok hg.1.1 hd ed
          have i3 := iv_ok hg.1.1 hsp esp
          have b1 := ile_el b1
          have b2 := ile_el b2
          have b3 := ile_el b3
          have b4 := ile_el b4
          have b5 := ile_el b5
          have := i1.1
          have := i1.2
          have := i2.1
          have := i2.2
          have := i3.1
          have := i3.2
          obtain ⟨cs0, rs0, _, hx0, _⟩ := isL_el hg.2.2.2.1 b6 hq0
          obtain ⟨cs1, rs1, _, hx1, _⟩ := isL_el hg.2.2.2.1 b7 hq1
          refine xb_mk (xcs_ble hT5 b10) ?_
          unfold xga
          rw [hx0]
          dsimp only
          refine xb_mk rfl ?_
          rw [hx1]
          dsimp only
          refine xb_mk rfl ⟨⟨nneg_of (by omega), nneg_of (by omega), nneg_of (by omega), ?_, ?_⟩, hk _ _ _ _ _ _ ⟨hg.1, ⟨hg.2.1.1, hT5⟩, ⟨fun p' k' q' hq' => ?_, fun p' k' hq' => ?_, fun p' hp' => ?_⟩, hg.2.2.2⟩⟩
          · show xsp.toInt.toNat + xn'.toInt.toNat ≤ l0
            omega
          · show xd.toInt.toNat + xn'.toInt.toNat ≤ l1
            omega
          · by_cases hh : p' = q1
            · subst hh
              rw [tOff_same] at hq'
              cases hq'
            · rw [tOff_ne hh] at hq'
              rw [cI_ne hh]
              exact hg.2.2.1.1 _ _ _ hq'
          · by_cases hh : p' = q1
            · subst hh
              exact noCell_ok b8 _
            · rw [tOff_ne hh] at hq'
              rw [cI_ne hh]
              exact hg.2.2.1.2.1 _ _ hq'
          · have hne : p' ≠ q1 := fun z => by rw [z, b9] at hp'; cases hp'
            rw [cI_ne hne]
            exact hg.2.2.1.2.2 _ hp'
        · cases h
      · cases h
    · cases h
  · cases h
-- conditions
def cdH (q : Jvm.ClassFile.Cond) (x y : Int) : Prop := match q with
  | .eq => x = y
  | .ne => ¬ x = y
  | .lt => x < y
  | .ge => y ≤ x
  | .gt => y < x
  | .le => x ≤ y
def ngC (q : Jvm.ClassFile.Cond) : Jvm.ClassFile.Cond := match q with
  | .eq => .ne
  | .ne => .eq
  | .lt => .ge
  | .ge => .lt
  | .gt => .le
  | .le => .gt
def trim (a : Int × Int) (c : Int) : Int × Int := (match decide (a.1 = c) with
  | true => a.1 + 1
  | false => a.1, match decide (a.2 = c) with
  | true => a.2 - 1
  | false => a.2)
def rfC (q : Jvm.ClassFile.Cond) (a b : Int × Int) : (Int × Int) × (Int × Int) := match q with
  | .eq => ((imax a.1 b.1, imin a.2 b.2), (imax a.1 b.1, imin a.2 b.2))
  | .ne => (match decide (b.1 = b.2) with
    | true => trim a b.1
    | false => a, match decide (a.1 = a.2) with
    | true => trim b a.1
    | false => b)
  | .lt => ((a.1, imin a.2 (b.2 - 1)), (imax b.1 (a.1 + 1), b.2))
  | .ge => ((imax a.1 b.1, a.2), (b.1, imin b.2 a.2))
  | .gt => ((imax a.1 (b.1 + 1), a.2), (b.1, imin b.2 (a.2 - 1)))
  | .le => ((a.1, imin a.2 b.2), (imax b.1 a.1, b.2))
theorem le_imin {a b x : Int} (h1 : x ≤ a) (h2 : x ≤ b) : x ≤ imin a b := by
  unfold imin
  split
  · exact h1
  · exact h2
theorem imax_le {a b x : Int} (h1 : a ≤ x) (h2 : b ≤ x) : imax a b ≤ x := by
  unfold imax
  split
  · exact h2
  · exact h1
theorem trim_ok {a : Int × Int} {c x : Int} (hx : inI a x) (h : ¬ x = c) : inI (trim a c) x := by
  have h1 := hx.1
  have h2 := hx.2
  unfold trim
  constructor
  · dsimp only
    split
    · rename_i e
      have e := of_decide_eq_true e
      omega
    · exact h1
  · dsimp only
    split
    · rename_i e
      have e := of_decide_eq_true e
      omega
    · exact h2
theorem rfC_ok {q : Jvm.ClassFile.Cond} {a b : Int × Int} {x y : Int} (h : cdH q x y) (hx : inI a x) (hy : inI b y) : inI (rfC q a b).1 x ∧ inI (rfC q a b).2 y := by
  have x1 := hx.1
  have x2 := hx.2
  have y1 := hy.1
  have y2 := hy.2
  cases q with
  | eq =>
    have h : x = y := h
    exact ⟨⟨imax_le x1 (by omega), le_imin x2 (by omega)⟩, ⟨imax_le (by omega) y1, le_imin (by omega) y2⟩⟩
  | ne =>
    have h : ¬ x = y := h
    constructor
    · show inI (match decide (b.1 = b.2) with | true => trim a b.1 | false => a) x
      split
      · rename_i e
        have e := of_decide_eq_true e
        exact trim_ok hx (by omega)
      · exact hx
    · show inI (match decide (a.1 = a.2) with | true => trim b a.1 | false => b) y
      split
      · rename_i e
        have e := of_decide_eq_true e
        exact trim_ok hy (by omega)
      · exact hy
  | lt =>
    have h : x < y := h
    exact ⟨⟨x1, le_imin x2 (by omega)⟩, ⟨imax_le y1 (by omega), y2⟩⟩
  | ge =>
    have h : y ≤ x := h
    exact ⟨⟨imax_le x1 (by omega), x2⟩, ⟨y1, le_imin y2 (by omega)⟩⟩
  | gt =>
    have h : y < x := h
    exact ⟨⟨imax_le x1 (by omega), x2⟩, ⟨y1, le_imin y2 (by omega)⟩⟩
  | le =>
    have h : x ≤ y := h
    exact ⟨⟨x1, le_imin x2 (by omega)⟩, ⟨imax_le y1 (by omega), y2⟩⟩
def meet (E : AE) (q : Nat × Int) (r : Int × Int) : AE := match xn E q.1 with
  | some o => E.set q.1 (imax o.1 (r.1 - q.2), imin o.2 (r.2 - q.2))
  | none => E
def deadE (E : AE) : Bool := E.any fun r => !(ile r.1 r.2)
theorem meet_ok {E : AE} {q : Nat × Int} {r : Int × Int} {x : Int32} (hE : envO R E) (hx : numO R q x) (hr : inI r x.toInt) : envO R (meet E q r) := by
  unfold meet
  split
  · rename_i o e
    obtain ⟨z, h1, h2⟩ := hx
    refine ⟨by rw [List.length_set]; exact hE.1, fun v y w hv hw => ?_⟩
    by_cases hh : q.1 = v
    · subst hh
      rw [xn_set_eq (xn_lt e)] at hw
      cases hw
      rw [h1] at hv
      cases hv
      have ho := hE.2 _ _ _ h1 e
      have := hr.1
      have := hr.2
      exact ⟨imax_le ho.1 (by omega), le_imin ho.2 (by omega)⟩
    · rw [xn_set_ne hh] at hw
      exact hE.2 v y w hv hw
  · exact hE
theorem dead_el {E : AE} (hE : envO R E) : deadE E = false := by
  cases e : deadE E with
  | false => rfl
  | true =>
    obtain ⟨r, hr, h⟩ := List.any_eq_true.mp e
    simp only [Bool.not_eq_true'] at h
    obtain ⟨i, hi, rfl⟩ := List.getElem_of_mem hr
    have h1 : xn E i = some E[i] := by rw [xn_eq]; simp [hi]
    obtain ⟨z, hz⟩ := xn_some (l := R) (i := i) (by rw [hE.1]; exact hi)
    have := hE.2 i z _ hz h1
    have h2 : ¬ (E[i].1 ≤ E[i].2) := of_decide_eq_false h
    exact absurd (Int.le_trans this.1 this.2) h2
/-- the numbers where the condition holds; none: it can't -/
def aBr (q : Jvm.ClassFile.Cond) (S : AS) (T : List AV) (x y : Nat × Int) : Option AS := match iv S.1 x, iv S.1 y with
  | some a, some b => (match deadE (meet (meet S.1 x (rfC q a b).1) y (rfC q a b).2) with
    | true => none
    | false => some (meet (meet S.1 x (rfC q a b).1) y (rfC q a b).2, S.2.1, T, S.2.2.2))
  | _, _ => some (aSt S T)
theorem aBr_ok {q : Jvm.ClassFile.Cond} {T : List AV} {x y : Nat × Int} {u v : Int32} {r : List Value} (hg : ga C Wm Wf sh0 I0 R0 R S lc st sh I) (hT : stO R T r) (hx : numO R x u) (hy : numO R y v) (h : cdH q u.toInt v.toInt) : ∃ S', aBr q S T x y = some S' ∧ ga C Wm Wf sh0 I0 R0 R S' lc r sh I := by
  unfold aBr
  split
  · rename_i a b ea eb
    have hr := rfC_ok h (iv_ok hg.1.1 hx ea) (iv_ok hg.1.1 hy eb)
    have hE := meet_ok (meet_ok hg.1.1 hx hr.1) hy hr.2
    rw [dead_el hE]
    exact ⟨_, rfl, ⟨hE, hg.1.2⟩, ⟨hg.2.1.1, hT⟩, hg.2.2⟩
  · exact ⟨_, rfl, ga_st hg hT⟩
theorem xc1_of {q : Jvm.ClassFile.Cond} {x : Int32} {T F : Prop} (hT : cdH q x.toInt 0 → T) (hF : cdH (ngC q) x.toInt 0 → F) : xc1 q x T F := by
  have e0 : (0 : Int32).toInt = 0 := by decide
  have he : x = 0 ↔ x.toInt = 0 := ⟨fun z => by rw [z]; exact e0, fun z => Int32.toInt_inj.mp (z.trans e0.symm)⟩
  have hl : x < 0 ↔ x.toInt < 0 := by rw [Int32.lt_iff_toInt_lt, e0]
  have hl2 : 0 < x ↔ 0 < x.toInt := by rw [Int32.lt_iff_toInt_lt, e0]
  have hg : 0 ≤ x ↔ 0 ≤ x.toInt := by rw [Int32.le_iff_toInt_le, e0]
  have hg2 : x ≤ 0 ↔ x.toInt ≤ 0 := by rw [Int32.le_iff_toInt_le, e0]
  cases q with
  | eq => exact ⟨fun z => hT (he.mp z), fun z => hF (fun y => z (he.mpr y))⟩
  | ne => exact ⟨fun z => hT (fun y => z (he.mpr y)), fun z => hF (he.mp z)⟩
  | lt => exact ⟨fun z => hT (hl.mp z), fun z => hF (by have : ¬ x.toInt < 0 := fun y => z (hl.mpr y); show 0 ≤ x.toInt; omega)⟩
  | ge => exact ⟨fun z => hT (hg.mp z), fun z => hF (by have : ¬ 0 ≤ x.toInt := fun y => z (hg.mpr y); show x.toInt < 0; omega)⟩
  | gt => exact ⟨fun z => hT (hl2.mp z), fun z => hF (by have : ¬ 0 < x.toInt := fun y => z (hl2.mpr y); show x.toInt ≤ 0; omega)⟩
  | le => exact ⟨fun z => hT (hg2.mp z), fun z => hF (by have : ¬ x.toInt ≤ 0 := fun y => z (hg2.mpr y); show 0 < x.toInt; omega)⟩
theorem xc2_of {q : Jvm.ClassFile.Cond} {x w : Int32} {T F : Prop} (hT : cdH q x.toInt w.toInt → T) (hF : cdH (ngC q) x.toInt w.toInt → F) : xc2 q x w T F := by
  have he : x = w ↔ x.toInt = w.toInt := ⟨fun z => by rw [z], fun z => Int32.toInt_inj.mp z⟩
  have hl : x < w ↔ x.toInt < w.toInt := Int32.lt_iff_toInt_lt
  have hl2 : w < x ↔ w.toInt < x.toInt := Int32.lt_iff_toInt_lt
  have hg : w ≤ x ↔ w.toInt ≤ x.toInt := Int32.le_iff_toInt_le
  have hg2 : x ≤ w ↔ x.toInt ≤ w.toInt := Int32.le_iff_toInt_le
  cases q with
  | eq => exact ⟨fun z => hT (he.mp z), fun z => hF (fun y => z (he.mpr y))⟩
  | ne => exact ⟨fun z => hT (fun y => z (he.mpr y)), fun z => hF (he.mp z)⟩
  | lt => exact ⟨fun z => hT (hl.mp z), fun z => hF (by have : ¬ x.toInt < w.toInt := fun y => z (hl.mpr y); show w.toInt ≤ x.toInt; omega)⟩
  | ge => exact ⟨fun z => hT (hg.mp z), fun z => hF (by have : ¬ w.toInt ≤ x.toInt := fun y => z (hg.mpr y); show x.toInt < w.toInt; omega)⟩
  | gt => exact ⟨fun z => hT (hl2.mp z), fun z => hF (by have : ¬ w.toInt < x.toInt := fun y => z (hl2.mpr y); show x.toInt ≤ w.toInt; omega)⟩
  | le => exact ⟨fun z => hT (hg2.mp z), fun z => hF (by have : ¬ x.toInt ≤ w.toInt := fun y => z (hg2.mpr y); show w.toInt < x.toInt; omega)⟩
end ABSIN
