/-! a CALL in the class, argument by argument -/
theorem cE_2 {P : pr_T} {m : Nat} {E : an_E} {M : fm_M} (h : cE P m E M) {k p : Nat} (hk : k < 5) (hp : p < P.2.1 k) : E.2.1 k p ≤ 2 := by
  by_cases q : k ≤ m ∨ P.1 k = 0
  · rw [(h.2.1 k p q).1]; omega
  · exact (h.2.2 k (by omega) hk (by omega) p hp).2.1
theorem cE_s {P : pr_T} {m : Nat} {E : an_E} {M : fm_M} (h : cE P m E M) {k p : Nat} (hk : k < 5) (hp : p < P.2.1 k) (q : ¬ (k ≤ m ∨ P.1 k = 0)) : M (kFs k) p = nI (E.2.1 k p) :=
  (h.2.2 k (by omega) hk (by omega) p hp).1
theorem cE_k2 {P : pr_T} {m : Nat} {E : an_E} {M : fm_M} (h : cE P m E M) {k p : Nat} (hk : k < 5) (hp : p < P.2.1 k) (e : E.2.1 k p = 2) : E.2.2 k p = true := by
  by_cases q : k ≤ m ∨ P.1 k = 0
  · exact (h.2.1 k p q).2
  · obtain ⟨b, _, h2⟩ := (h.2.2 k (by omega) hk (by omega) p hp).2.2
    rw [h2, decide_eq_true e, Bool.true_or]
theorem cE_x {P : pr_T} {m : Nat} {E : an_E} {M : fm_M} (h : cE P m E M) {k p : Nat} (hk : k < 5) (hp : p < P.2.1 k) (e : ¬ E.2.1 k p = 2) : M (kFx k) p = bI (E.2.2 k p) := by
  have q : ¬ (k ≤ m ∨ P.1 k = 0) := fun q => e (h.2.1 k p q).1
  obtain ⟨b, h1, h2⟩ := (h.2.2 k (by omega) hk (by omega) p hp).2.2
  rw [h1, h2, decide_eq_false e, Bool.false_or]
section CCA
variable {m : Nat} {M M1 M2 M3 M4 : fm_M} {σ : an_T} {E : an_E} {x y z k p : Nat} {v : Int32}
theorem cS_r1 (hc : cS m M M1 σ) (hv : v = if E.2.2 k p = true then an_rc (cA M1 m).2.1 (an_ag (cA M1 m) y z p) ||| an_W else an_rc (cA M1 m).2.1 (an_ag (cA M1 m) y z p))
    (c1 : cS m M1 M2 (an_h (cA M1 m) (an_rc (cA M1 m).2.1 (an_ag (cA M1 m) y z p)) an_al v)) : cS m M M2 (an_r1 E y z k p σ) := by
  refine cS_eq (cS_tr hc c1) ?_
  rw [hv, hc.1]
  rfl
theorem cS_ca2 (hc : cS m M M1 σ) (h : cS m M M2 (an_r1 E y z k p σ)) (hs : E.2.1 k p = 2) (c2 : cS m M2 M3 (an_h (cA M2 m) an_W an_al (an_ag (cA M1 m) y z p))) : cS m M M3 (an_ca E x y z k p σ) := by
  refine cS_eq (cS_tr h c2) ?_
  rw [h.1, hc.1, an_ca, an_r2, if_pos hs]
  rfl
theorem cS_ca0 (h : cS m M M2 (an_r1 E y z k p σ)) (hs : ¬ E.2.1 k p = 2) (hs1 : ¬ E.2.1 k p = 1) : cS m M M2 (an_ca E x y z k p σ) := by
  refine cS_eq h ?_
  rw [an_ca, an_r2, if_neg hs, if_neg hs1]
theorem cS_ca1 {bo : Int32} (h : cS m M M2 (an_r1 E y z k p σ)) (hs : E.2.1 k p = 1) (hbo : bo = an_bo (cA M2 m) (E.1 k) y z) (c2 : cS m M2 M3 (an_h (cA M2 m) (an_rc (cA M2 m).2.1 bo) an_al (an_rc (cA M2 m).2.1 bo)))
    (c3 : cS m M3 M4 (an_m (cA M3 m) x (an_rc (cA M2 m).2.1 bo))) : cS m M M4 (an_ca E x y z k p σ) := by
  refine cS_eq (cS_tr h (cS_tr c2 c3)) ?_
  rw [c2.1, hbo, h.1, an_ca, an_r2, if_neg (by omega), if_pos hs]
end CCA
