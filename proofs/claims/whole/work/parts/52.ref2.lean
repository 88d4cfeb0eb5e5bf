/-! a CALL in the reference -/
theorem rS_m2 {m x : Nat} (hx : x < 4) (M : fm_M) (s : Int32) : rS m M (fm_up M 8 (4 * m + x) ((rA M m).1 x ||| s)) (an_m (rA M m) x s) := by
  rw [rA_m hx]
  exact rS_m hx M s
theorem rS_g2 {m : Nat} (M : fm_M) (s : Int32) : rS m M (fm_up M 10 m ((rA M m).2.2 ||| s)) (an_g (rA M m) s) := rS_g M s
section RCA
variable {m : Nat} {M M1 M2 M3 : fm_M} {σ : an_T} {E : an_E} {x y z k p : Nat} {v bo : Int32}
theorem rS_c0 (c1 : rS m M M1 (an_h (rA M m) (an_rc (rA M m).2.1 an_W) (rHs 2) an_W)) (c2 : rS m M1 M2 (an_m (rA M1 m) x (an_hb (fun a => (rA M1 m).2.1 a 0) an_W 27))) : rS m M M2 (an_c0 x (rA M m)) := by
  refine rS_eq (rS_tr c1 c2) ?_
  rw [show an_W = an_1 26 from rfl, an_hb_1 _ (by omega), c1.1, rHs_2]
  rfl
theorem rS_r1 (hc : rS m M M1 σ) (hv : v = if E.2.2 k p = true then an_rc (rA M1 m).2.1 (an_ag (rA M1 m) y z p) ||| an_W else an_rc (rA M1 m).2.1 (an_ag (rA M1 m) y z p))
    (c1 : rS m M1 M2 (an_h (rA M1 m) (an_rc (rA M1 m).2.1 (an_ag (rA M1 m) y z p)) (rHs 2) v)) : rS m M M2 (an_r1 E y z k p σ) := by
  refine rS_eq (rS_tr hc c1) ?_
  rw [hv, hc.1, rHs_2]
  rfl
theorem rS_r2_2 (hc : rS m M M1 σ) (hs : E.2.1 k p = 2) (c2 : rS m M1 M2 (an_h (rA M1 m) an_W (rHs 2) (an_ag (rA M1 m) y z p))) : rS m M M2 (an_r2 E x y z k bo p σ) := by
  refine rS_eq (rS_tr hc c2) ?_
  rw [hc.1, an_r2, if_pos hs, rHs_2]
theorem rS_r2_1 (hc : rS m M M1 σ) (hs : E.2.1 k p = 1) (c2 : rS m M1 M2 (an_h (rA M1 m) (an_rc (rA M1 m).2.1 bo) (rHs 2) (an_rc (rA M1 m).2.1 bo))) (c3 : rS m M2 M3 (an_m (rA M2 m) x (an_rc (rA M1 m).2.1 bo))) : rS m M M3 (an_r2 E x y z k bo p σ) := by
  refine rS_eq (rS_tr hc (rS_tr c2 c3)) ?_
  rw [c2.1, hc.1, an_r2, if_neg (by omega), if_pos hs, rHs_2]
theorem rS_r2_0 (hc : rS m M M1 σ) (hs : ¬ E.2.1 k p = 2) (hs1 : ¬ E.2.1 k p = 1) : rS m M M1 (an_r2 E x y z k bo p σ) := by
  refine rS_eq hc ?_
  rw [an_r2, if_neg hs, if_neg hs1]
theorem an_rn1_m : ∀ p, (an_rn1 E x y z k p σ).1 = (an_c0 x σ).1 := by
  intro p
  induction p with
  | zero => rfl
  | succ p ih => exact ih
end RCA
/-- the arguments gathered so far -/
def an_rb (σ : an_T) (y z p : Nat) : Int32 := if p = 0 then 0 else if p = 1 then σ.1 y else σ.1 y ||| σ.1 z
theorem an_rb_s {σ : an_T} {y z p : Nat} (h : p < 2) : an_rb σ y z p ||| σ.1 (if p = 0 then y else z) = an_rb σ y z (p + 1) := by
  rcases (by omega : p = 0 ∨ p = 1) with e | e <;> subst e
  · exact an_0or _
  · rfl
theorem an_rn_end {E : an_E} {x y z k : Nat} {σ : an_T} (hk : E.1 k ≤ 2) : an_rn2 E x y z k (an_rb (an_c0 x σ) y z (E.1 k)) (E.1 k) (an_rn1 E x y z k (E.1 k) σ) = an_rn E x y z k σ := by
  unfold an_rn
  by_cases h0 : E.1 k = 0
  · rw [h0]; rfl
  · have e : an_rb (an_c0 x σ) y z (E.1 k) = an_bo (an_rn1 E x y z k (E.1 k) σ) (E.1 k) y z := by
      unfold an_rb an_bo
      rw [an_rn1_m, if_neg h0]
      by_cases h1 : E.1 k = 1
      · rw [if_pos h1, if_neg (by omega)]
      · rw [if_neg h1, if_pos (by omega)]
    rw [e]
