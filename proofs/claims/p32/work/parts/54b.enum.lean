-- ===== a stop whose stretch is right for each value of one number =====
def enS (A : AA) (vi : Nat) (z : Int) : AS := (A.1.set vi (z, z), A.2.1, A.2.2.1, A.2.2.2.1)
theorem seg_enum {Q : XI → Prop} {G : List (Nat × AK)} {dep : Nat} {posts : List AP} {C : AC} {Wm : List Nat} {Wf : Bool} {sh0 : List XO} {I0 : XI} {X : XX} {rt : Option FieldType} {al : Bool} {n0 mc ms : Nat} {l : Launch} {D : Nat} {t : XT} {stop : List Nat} {Rp : XR} {args : List Value} {anns : List (Nat × AA)} {m : Nat} {q : Nat × AA} (hQ : ∀ I', frO Wm I0 I' → Q I') (hG : ctsO Q C X G) (hO : outO Q C Wm Wf sh0 I0 posts args Rp) (vi n : Nat) (lo : Int) (hE : xn q.2.1 vi = some (lo, lo + n)) (h : ∀ k, k ≤ n → aN C Wm Wf G dep posts X rt t stop (kkA C (m + 1) anns (some q.2.2.2.2.2.2)) q.1 (enS q.2 vi (lo + (k : Int))) = true) : segO C Wm Wf sh0 I0 X rt al n0 mc ms l (D + dep) t stop Rp args anns m q := by
  intro K R lc st sh I J hK hg hp
  have hv : ∃ z, xn R vi = some z ∧ lo ≤ z ∧ z ≤ lo + n := by
    have hl := hg.1.1.1
    have hlt : vi < q.2.1.length := by
      rw [xn_eq] at hE
      exact (List.getElem?_eq_some_iff.mp hE).1
    have hlt2 : vi < R.length := by
      rw [hl]
      exact hlt
    have hz : xn R vi = some R[vi] := by rw [xn_eq]; exact List.getElem?_eq_getElem hlt2
    have hi := hg.1.1.2 vi _ _ hz hE
    exact ⟨_, hz, hi.1, hi.2⟩
  obtain ⟨z, hz, h1, h2⟩ := hv
  have y := h (z - lo).toNat (by omega)
  rw [show lo + ((z - lo).toNat : Int) = z by omega] at y
  have hg' : ga C Wm Wf sh0 I0 R R (enS q.2 vi z) lc st sh I := by
    refine ⟨⟨⟨?_, fun v w r hw hr => ?_⟩, hg.1.2⟩, hg.2⟩
    · show R.length = (q.2.1.set vi (z, z)).length
      rw [List.length_set]
      exact hg.1.1.1
    · replace hr : xn (q.2.1.set vi (z, z)) v = some r := hr
      rw [xn_eq] at hr
      by_cases e : v = vi
      · subst e
        rw [hz] at hw
        cases hw
        rw [List.getElem?_set_self (by rw [xn_eq] at hE; exact (List.getElem?_eq_some_iff.mp hE).1)] at hr
        cases hr
        exact ⟨Int.le_refl _, Int.le_refl _⟩
      · rw [List.getElem?_set_ne (Ne.symm e), ← xn_eq] at hr
        exact hg.1.1.2 v w r hw hr
  exact aN_ok (d := D) (Rp := Rp) hQ hG hO hp hK (enS q.2 vi z) y R lc st sh I J hg'
