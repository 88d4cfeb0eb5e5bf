/-! BOTH SYSTEMS: each call answers the same, and keeps them together -/
theorem fm_ct_mono {S : fm_S} {y : MethodName} {cc : ByteArray} {maxL : Nat} {ret : Option FieldType} {d : Nat} {as : List fm_V} {M : fm_M} {post post' : Option Int32 → fm_M → Prop} (h : ∀ r M', post r M' → post' r M') (k : fm_ct S y cc maxL ret d as M post) : fm_ct S y cc maxL ret d as M post' := by
  intro l D ad tA sz p e ha hc hk s m args below hf happ hP hK
  obtain ⟨n, o, h1, h2, h3, ⟨⟨r, M1, q1, q2, q3⟩, q4⟩, q5⟩ := k l D ad tA sz p e ha hc hk s m args below hf happ hP hK
  exact ⟨n, o, h1, h2, h3, ⟨⟨r, M1, q1, h r M1 q2, q3⟩, q4⟩, q5⟩
section JS
variable {P : pr_T} {Mc Mr Mc' Mr' : fm_M}
theorem jI_c (J : jI P Mc Mr) (h : cT P Mc' ∧ Mc' 0 4 = 0 ∧ cFr Mc Mc') : jI P Mc' Mr := by
  obtain ⟨hw, jc, jr, ⟨b, jb, jt⟩, jR, jk, ⟨sh, js, js1, js2⟩, j1, j2, j3, j4⟩ := J
  obtain ⟨h1, h2, h3⟩ := h
  have e : ∀ a j, a < 15 → ¬ (a = 0 ∧ j = 4) → Mc' a j = Mc a j := fun a j q1 q2 => h3 a j (Or.inl q1) q2
  refine ⟨hw, cP_cg jc (fun a j q => h3 a j (Or.inr q) (by obtain ⟨n, t, h1, h2, e⟩ := q; omega)), jr, ⟨false, h2, fun _ => h1⟩, jR, fun j hj => by rw [e 14 j (by omega) (by omega)]; exact jk j hj, ⟨sh, js, by rw [e 4 12 (by omega) (by omega)]; exact js1, js2⟩, ?_, ?_, ?_, ?_⟩
  · rw [e 4 11 (by omega) (by omega)]; exact j1
  · rw [e 4 13 (by omega) (by omega)]; exact j2
  · rw [e 4 14 (by omega) (by omega)]; exact j3
  · rw [e 4 15 (by omega) (by omega)]; exact j4
theorem jI_r (J : jI P Mc Mr) (h : rKn P Mr Mr') : jI P Mc Mr' := by
  obtain ⟨hw, jc, jr, jC, ⟨b, jb, jt⟩, jk, ⟨sh, js, js1, js2⟩, j1, j2, j3, j4⟩ := J
  obtain ⟨h1, h2, h3⟩ := h
  refine ⟨hw, jc, rP_cg jr (fun a j q1 q2 => h3 a j (by omega) (by omega)), jC, ⟨true, h2, fun _ => h1⟩, fun j hj => by rw [h3 21 j (by omega) (by omega)]; exact jk j hj, ⟨sh, js, js1, by rw [h3 0 25 (by omega) (by omega)]; exact js2⟩, ?_, ?_, ?_, ?_⟩
  · rw [h3 0 24 (by omega) (by omega)]; exact j1
  · rw [h3 0 26 (by omega) (by omega)]; exact j2
  · rw [h3 0 22 (by omega) (by omega)]; exact j3
  · rw [h3 0 27 (by omega) (by omega)]; exact j4
theorem jI_t (J : jI P Mc Mr) (v : Int32) : jI P Mc (fm_up Mr 0 0 v) := by
  obtain ⟨hw, jc, jr, jC, ⟨b, jb, jt⟩, jk, ⟨sh, js, js1, js2⟩, j1, j2, j3, j4⟩ := J
  refine ⟨hw, jc, rP_cg jr (fun a j q1 q2 => fm_up_a (by omega)), jC, ⟨b, by rw [fm_up_b (by decide)]; exact jb, fun z => rT_cg (fun n hn => (hw n hn).2.1) (jt z) (fun a j q1 q2 => fm_up_a (by omega))⟩, fun j hj => by rw [fm_up_a (by decide)]; exact jk j hj, ⟨sh, js, js1, by rw [fm_up_b (by decide)]; exact js2⟩, ?_, ?_, ?_, ?_⟩
  · rw [fm_up_b (by decide)]; exact j1
  · rw [fm_up_b (by decide)]; exact j2
  · rw [fm_up_b (by decide)]; exact j3
  · rw [fm_up_b (by decide)]; exact j4
/-- the program has changed -/
theorem jI_p (J : jI P Mc Mr) {Q : pr_T} (hw : pr_wf Q) (hc : cP Mc' Q) (hr : rP Mr' Q) (h1 : Mc' 0 4 = nI 1) (h2 : Mr' 0 8 = nI 0) (h3 : ∀ a j, 4 ≤ a → a ≤ 14 → Mc' a j = Mc a j) (h4 : ∀ j, 14 ≤ j → Mr' 0 j = Mr 0 j) (h5 : ∀ j, Mr' 21 j = Mr 21 j) : jI Q Mc' Mr' := by
  obtain ⟨_, _, _, _, _, jk, ⟨sh, js, js1, js2⟩, j1, j2, j3, j4⟩ := J
  refine ⟨hw, hc, hr, ⟨true, h1, fun z => absurd z (by decide)⟩, ⟨false, h2, fun z => absurd z (by decide)⟩, fun j hj => by rw [h3 14 j (by omega) (by omega), h5]; exact jk j hj, ⟨sh, js, by rw [h3 4 12 (by omega) (by omega)]; exact js1, by rw [h4 25 (by omega)]; exact js2⟩, ?_, ?_, ?_, ?_⟩
  · rw [h3 4 11 (by omega) (by omega), h4 24 (by omega)]; exact j1
  · rw [h3 4 13 (by omega) (by omega), h4 26 (by omega)]; exact j2
  · rw [h3 4 14 (by omega) (by omega), h4 22 (by omega)]; exact j3
  · rw [h3 4 15 (by omega) (by omega), h4 27 (by omega)]; exact j4
theorem jI_put (J : jI P Mc Mr) {m : Nat} {I : an_I} (hm : m < 5) (h : P.1 m < 24) (w : an_wf I) : jI (pr_put P m I) (cp_put Mc P m I) (rp_put Mr P m I) := by
  refine jI_p J (pr_put_wf J.1 h w) (cP_put J.2.1 J.1 hm h) (rP_put J.2.2.1 J.1 hm h) ?_ ?_ (fun a j q1 q2 => ?_) (fun j q => ?_) (fun j => ?_)
  · unfold cp_put cp_app kC kCa
    rw [fm_up_n (by omega), fm_up_n (by omega), fm_up_n (by omega), fm_up_n (by omega), fm_up_n (by omega), fm_up_n (by omega), fm_up_s]
  · unfold rp_put
    rw [fm_up_s]
  · unfold cp_put cp_app kC kCa
    rw [fm_up_n (by omega), fm_up_n (by omega), fm_up_n (by omega), fm_up_n (by omega), fm_up_n (by omega), fm_up_n (by omega), fm_up_n (by omega)]
  · unfold rp_put
    rw [fm_up_n (by omega), fm_up_n (by omega), fm_up_n (by omega), fm_up_n (by omega), fm_up_n (by omega), fm_up_n (by omega), fm_up_n (by omega), fm_up_n (by omega)]
  · unfold rp_put
    rw [fm_up_n (by omega), fm_up_n (by omega), fm_up_n (by omega), fm_up_n (by omega), fm_up_n (by omega), fm_up_n (by omega), fm_up_n (by omega), fm_up_n (by omega)]
theorem jI_par (J : jI P Mc Mr) {m k : Nat} (hk : k ≤ 2) : jI (pr_par P m k) (cp_par Mc m k) (rp_par Mr m k) := by
  refine jI_p J (pr_par_wf J.1 hk) (cP_par J.2.1) (rP_par J.2.2.1) ?_ ?_ (fun a j q1 q2 => ?_) (fun j q => ?_) (fun j => ?_)
  · unfold cp_par kC
    rw [fm_up_s]
  · unfold rp_par
    rw [fm_up_s]
  · unfold cp_par kC
    rw [fm_up_n (by omega), fm_up_n (by omega)]
  · unfold rp_par
    rw [fm_up_n (by omega), fm_up_n (by omega), fm_up_n (by omega)]
  · unfold rp_par
    rw [fm_up_n (by omega), fm_up_n (by omega), fm_up_n (by omega)]
theorem jI_clr (J : jI P Mc Mr) {m : Nat} : jI (pr_clr P m) (cp_clr Mc m) (rp_clr Mr m) := by
  refine jI_p J (pr_clr_wf J.1) (cP_clr J.2.1) (rP_clr J.2.2.1) ?_ ?_ (fun a j q1 q2 => ?_) (fun j q => ?_) (fun j => ?_)
  · unfold cp_clr kC
    rw [fm_up_s]
  · unfold rp_clr
    rw [fm_up_s]
  · unfold cp_clr kC
    rw [fm_up_n (by omega), fm_up_n (by omega)]
  · unfold rp_clr
    rw [fm_up_n (by omega), fm_up_n (by omega), fm_up_n (by omega)]
  · unfold rp_clr
    rw [fm_up_n (by omega), fm_up_n (by omega), fm_up_n (by omega)]
end JS
/-- a call of the class, then one of the reference: the answers, and both together again -/
def jPair (yc : MethodName) (bc : ByteArray) (lc dc : Nat) (yr : MethodName) (br : ByteArray) (lr dr : Nat) (as : List fm_V) (Mc Mr : fm_M) : Prop :=
  ∃ pc : Int32 → fm_M → Prop, fm_ct SC yc bc lc (some .int) dc (.inr 0 :: as) Mc (fm_ir pc) ∧ ∀ x Mc', pc x Mc' → ∃ pr : Int32 → fm_M → Prop, fm_ct SR yr br lr (some .int) dr (.inr 0 :: as) Mr (fm_ir pr) ∧ ∀ x' Mr', pr x' Mr' → x' = x ∧ ∃ P', jI P' Mc' Mr'
section JP
variable {P : pr_T} {Mc Mr : fm_M}
theorem j_run (J : jI P Mc Mr) (ml : Bool) : jPair y_E_run b_E_run 2 7 y_R_run b_R_run 5 7 [.inl (bI ml)] Mc Mr := by
  have J0 := J
  obtain ⟨hw, jc, jr, ⟨b, jb, jt⟩, ⟨b', jb', jt'⟩, -⟩ := J
  refine ⟨_, k_E_run Mc jc hw b jb jt ml (fun M1 hK => cK_V hw ml hK), fun x Mc' hx => ⟨_, k_R_run Mr jr hw ml b' jb' jt' (fun M1 _ hQ => rK_V hw ml hQ), fun x' Mr' hx' => ?_⟩⟩
  obtain ⟨e, j⟩ := jI_run J0 ml hx hx'
  exact ⟨e.symm, P, j⟩
theorem j_latest (J : jI P Mc Mr) (v : Int32) : jPair y_E_latest b_E_latest 2 1 y_R_latest b_R_latest 2 1 [.inl v] Mc Mr := by
  refine ⟨_, k_E_latest Mc v, fun x Mc' hx => ⟨_, k_R_latest Mr v, fun x' Mr' hx' => ?_⟩⟩
  obtain ⟨rfl, hx⟩ := hx
  obtain ⟨rfl, hx'⟩ := hx'
  refine ⟨?_, P, jI_t J _⟩
  obtain ⟨-, -, -, -, -, -, ⟨sh, js, js1, js2⟩, j1, j2, j3, j4⟩ := J
  rcases hx with ⟨k, hk, ek, rfl⟩ | ⟨n, rfl⟩
  · rcases hx' with ⟨k', hk', ek', rfl⟩ | ⟨n', rfl⟩
    · have := nI_uq hk hk' (ek.symm.trans ek')
      subst this
      rcases (by omega : k = 0 ∨ k = 1 ∨ k = 2 ∨ k = 3 ∨ k = 4) with e | e | e | e | e <;> subst e
      · exact j1.symm
      · exact js2.trans js1.symm
      · exact j2.symm
      · exact j3.symm
      · exact j4.symm
    · exact absurd ⟨k, hk, ek⟩ n'
  · rcases hx' with ⟨k', hk', ek', rfl⟩ | ⟨n', rfl⟩
    · exact absurd ⟨k', hk', ek'⟩ n
    · rfl
theorem inR_no {v : Int32} (h : ¬ inR 5 v) : v < 0 ∨ nI 5 ≤ v := by
  by_cases z : v < 0
  · exact Or.inl z
  · exact Or.inr (Int32.not_lt.mp (fun y => h (inR_y (by decide) z y)))
theorem inR_no' {n : Nat} (hn : n < 2 ^ 31) {v : Int32} (h : ¬ inR n v) : v < 0 ∨ nI n ≤ v := by
  by_cases z : v < 0
  · exact Or.inl z
  · exact Or.inr (Int32.not_lt.mp (fun y => h (inR_y hn z y)))
theorem j_length (J : jI P Mc Mr) (v : Int32) : jPair y_E_length b_E_length 2 2 y_R_length b_R_length 2 2 [.inl v] Mc Mr := by
  have J0 := J
  obtain ⟨hw, jc, jr, -⟩ := J
  by_cases z : inR 5 v
  · obtain ⟨m, hm, e⟩ := z
    subst e
    refine ⟨fun x M' => x = nI (P.1 m) ∧ M' = Mc, fm_ct_mono (fun r M' h => ⟨_, h.1, rfl, h.2⟩) (k_E_length_y Mc jc hw hm), fun x Mc' hx => ⟨_, k_R_length Mr jr hw _, fun x' Mr' hx' => ?_⟩⟩
    obtain ⟨rfl, rfl⟩ := hx
    obtain ⟨rfl, hx'⟩ := hx'
    refine ⟨?_, P, jI_t J0 _⟩
    rcases hx' with ⟨k', hk', ek', rfl⟩ | ⟨n', _⟩
    · rw [nI_uq hm hk' ek']
    · exact absurd ⟨m, hm, rfl⟩ n'
  · refine ⟨fun x M' => x = -1 ∧ M' = Mc, fm_ct_mono (fun r M' h => ⟨_, h.1, rfl, h.2⟩) (k_E_length_n Mc v (inR_no z)), fun x Mc' hx => ⟨_, k_R_length Mr jr hw _, fun x' Mr' hx' => ?_⟩⟩
    obtain ⟨rfl, rfl⟩ := hx
    obtain ⟨rfl, hx'⟩ := hx'
    refine ⟨?_, P, jI_t J0 _⟩
    rcases hx' with ⟨k', hk', ek', _⟩ | ⟨n', rfl⟩
    · exact absurd ⟨k', hk', ek'⟩ z
    · rfl
theorem j_may (J : jI P Mc Mr) (v w : Int32) : jPair y_E_may b_E_may 3 7 y_R_may b_R_may 3 6 [.inl v, .inl w] Mc Mr := by
  have J0 := J
  obtain ⟨hw, jc, jr, ⟨b, jb, jt⟩, ⟨b', jb', jt'⟩, -⟩ := J
  by_cases z : inR 5 v
  · obtain ⟨m, hm, e⟩ := z
    subst e
    by_cases y : inR 4 w
    · obtain ⟨r, hr, e⟩ := y
      subst e
      refine ⟨_, k_E_may_y Mc jc hw b jb jt hm hr, fun x Mc' hx => ⟨_, k_R_may Mr jr hw b' jb' jt' _ _, fun x' Mr' hx' => ?_⟩⟩
      obtain ⟨h1, h2, h3, rfl⟩ := hx
      obtain ⟨g1, hx'⟩ := hx'
      refine ⟨?_, P, jI_r (jI_c J0 ⟨h1, h2, h3⟩) g1⟩
      rcases hx' with ⟨m', r', hm', hr', em, er, rfl⟩ | ⟨n', _⟩
      · have := nI_uq hm hm' em
        subst this
        have := (nI_eq (by omega) (by omega)).mp er
        subst this
        exact (cr_may h1 g1.1 hm hr).symm
      · exact absurd ⟨⟨m, hm, rfl⟩, ⟨r, hr, rfl⟩⟩ n'
    · refine ⟨fun x M' => x = -1 ∧ M' = Mc, fm_ct_mono (fun r M' h => ⟨_, h.1, rfl, h.2⟩) (k_E_may_m Mc hm w (inR_no' (by decide) y)), fun x Mc' hx => ⟨_, k_R_may Mr jr hw b' jb' jt' _ _, fun x' Mr' hx' => ?_⟩⟩
      obtain ⟨rfl, rfl⟩ := hx
      obtain ⟨g1, hx'⟩ := hx'
      refine ⟨?_, P, jI_r J0 g1⟩
      rcases hx' with ⟨m', r', hm', hr', em, er, _⟩ | ⟨n', rfl⟩
      · exact absurd ⟨r', hr', er⟩ y
      · rfl
  · refine ⟨fun x M' => x = -1 ∧ M' = Mc, fm_ct_mono (fun r M' h => ⟨_, h.1, rfl, h.2⟩) (k_E_may_n Mc v w (inR_no z)), fun x Mc' hx => ⟨_, k_R_may Mr jr hw b' jb' jt' _ _, fun x' Mr' hx' => ?_⟩⟩
    obtain ⟨rfl, rfl⟩ := hx
    obtain ⟨g1, hx'⟩ := hx'
    refine ⟨?_, P, jI_r J0 g1⟩
    rcases hx' with ⟨m', r', hm', hr', em, er, _⟩ | ⟨n', rfl⟩
    · exact absurd ⟨m', hm', em⟩ z
    · rfl
theorem j_summary (J : jI P Mc Mr) (v w : Int32) : jPair y_E_summary b_E_summary 3 7 y_R_summary b_R_summary 3 6 [.inl v, .inl w] Mc Mr := by
  have J0 := J
  obtain ⟨hw, jc, jr, ⟨b, jb, jt⟩, ⟨b', jb', jt'⟩, -⟩ := J
  by_cases z : inR 5 v
  · obtain ⟨m, hm, e⟩ := z
    subst e
    have wi := (hw m hm).2.1
    by_cases y : inR (P.2.1 m) w
    · obtain ⟨r, hr, e⟩ := y
      subst e
      refine ⟨_, k_E_summary_y Mc jc hw b jb jt hm hr, fun x Mc' hx => ⟨_, k_R_summary Mr jr hw b' jb' jt' _ _, fun x' Mr' hx' => ?_⟩⟩
      obtain ⟨h1, h2, h3, rfl⟩ := hx
      obtain ⟨g1, hx'⟩ := hx'
      refine ⟨?_, P, jI_r (jI_c J0 ⟨h1, h2, h3⟩) g1⟩
      rcases hx' with ⟨m', r', hm', hr', em, er, rfl⟩ | ⟨n', _⟩
      · have := nI_uq hm hm' em
        subst this
        have := (nI_eq (by omega) (by omega)).mp er
        subst this
        exact (cr_sum hw h1 g1.1 hm hr).symm
      · exact absurd ⟨m, r, hm, hr, rfl, rfl⟩ n'
    · refine ⟨fun x M' => x = -1 ∧ M' = Mc, fm_ct_mono (fun r M' h => ⟨_, h.1, rfl, h.2⟩) (k_E_summary_m Mc jc hw hm w (inR_no' (by omega) y)), fun x Mc' hx => ⟨_, k_R_summary Mr jr hw b' jb' jt' _ _, fun x' Mr' hx' => ?_⟩⟩
      obtain ⟨rfl, rfl⟩ := hx
      obtain ⟨g1, hx'⟩ := hx'
      refine ⟨?_, P, jI_r J0 g1⟩
      rcases hx' with ⟨m', r', hm', hr', em, er, _⟩ | ⟨n', rfl⟩
      · have := nI_uq hm hm' em
        subst this
        exact absurd ⟨r', hr', er⟩ y
      · rfl
  · refine ⟨fun x M' => x = -1 ∧ M' = Mc, fm_ct_mono (fun r M' h => ⟨_, h.1, rfl, h.2⟩) (k_E_summary_n Mc v w (inR_no z)), fun x Mc' hx => ⟨_, k_R_summary Mr jr hw b' jb' jt' _ _, fun x' Mr' hx' => ?_⟩⟩
    obtain ⟨rfl, rfl⟩ := hx
    obtain ⟨g1, hx'⟩ := hx'
    refine ⟨?_, P, jI_r J0 g1⟩
    rcases hx' with ⟨m', r', hm', hr', em, er, _⟩ | ⟨n', rfl⟩
    · exact absurd ⟨m', hm', em⟩ z
    · rfl
theorem j_fate (J : jI P Mc Mr) (v w : Int32) : jPair y_E_fate b_E_fate 3 7 y_R_fate b_R_fate 3 7 [.inl v, .inl w] Mc Mr := by
  have J0 := J
  obtain ⟨hw, jc, jr, ⟨b, jb, jt⟩, ⟨b', jb', jt'⟩, -⟩ := J
  by_cases z : inR 5 v
  · obtain ⟨m, hm, e⟩ := z
    subst e
    have wl := (hw m hm).1
    by_cases y : inR (P.1 m) w
    · obtain ⟨r, hr, e⟩ := y
      subst e
      refine ⟨_, k_E_fate_y Mc jc hw b jb jt hm hr, fun x Mc' hx => ⟨_, k_R_fate Mr jr hw b' jb' jt' _ _, fun x' Mr' hx' => ?_⟩⟩
      obtain ⟨h1, h2, h3, rfl⟩ := hx
      obtain ⟨g1, hx'⟩ := hx'
      refine ⟨?_, P, jI_r (jI_c J0 ⟨h1, h2, h3⟩) g1⟩
      rcases hx' with ⟨m', r', ⟨hm', hr', em, er⟩, hf⟩ | ⟨n', _⟩
      · have := nI_uq hm hm' em
        subst this
        have := (nI_eq (by omega) (by omega)).mp er
        subst this
        exact (cr_fate hw h1 g1.1 hm hr hf).symm
      · exact absurd ⟨m, r, hm, hr, rfl, rfl⟩ n'
    · refine ⟨fun x M' => x = -1 ∧ M' = Mc, fm_ct_mono (fun r M' h => ⟨_, h.1, rfl, h.2⟩) (k_E_fate_m Mc jc hw hm w (fun q => y ((inR_iff (by omega)).mpr q))), fun x Mc' hx => ⟨_, k_R_fate Mr jr hw b' jb' jt' _ _, fun x' Mr' hx' => ?_⟩⟩
      obtain ⟨rfl, rfl⟩ := hx
      obtain ⟨g1, hx'⟩ := hx'
      refine ⟨?_, P, jI_r J0 g1⟩
      rcases hx' with ⟨m', r', ⟨hm', hr', em, er⟩, _⟩ | ⟨n', rfl⟩
      · have := nI_uq hm hm' em
        subst this
        exact absurd ⟨r', hr', er⟩ y
      · rfl
  · refine ⟨fun x M' => x = -1 ∧ M' = Mc, fm_ct_mono (fun r M' h => ⟨_, h.1, rfl, h.2⟩) (k_E_fate_n Mc v w (inR_no z)), fun x Mc' hx => ⟨_, k_R_fate Mr jr hw b' jb' jt' _ _, fun x' Mr' hx' => ?_⟩⟩
    obtain ⟨rfl, rfl⟩ := hx
    obtain ⟨g1, hx'⟩ := hx'
    refine ⟨?_, P, jI_r J0 g1⟩
    rcases hx' with ⟨m', r', ⟨hm', hr', em, er⟩, _⟩ | ⟨n', rfl⟩
    · exact absurd ⟨m', hm', em⟩ z
    · rfl
theorem j_escape (J : jI P Mc Mr) (v w : Int32) : jPair y_E_escape b_E_escape 3 7 y_R_escape b_R_escape 3 6 [.inl v, .inl w] Mc Mr := by
  have J0 := J
  obtain ⟨hw, jc, jr, ⟨b, jb, jt⟩, ⟨b', jb', jt'⟩, -⟩ := J
  by_cases z : inR 5 v
  · obtain ⟨m, hm, e⟩ := z
    subst e
    have wl := (hw m hm).1
    by_cases y : inR (P.1 m) w
    · obtain ⟨r, hr, e⟩ := y
      subst e
      by_cases o : (P.2.2 m r).1 = 0
      · refine ⟨_, k_E_escape_y Mc jc hw b jb jt hm hr o, fun x Mc' hx => ⟨_, k_R_escape Mr jr hw b' jb' jt' _ _, fun x' Mr' hx' => ?_⟩⟩
        obtain ⟨h1, h2, h3, rfl⟩ := hx
        obtain ⟨g1, hx'⟩ := hx'
        refine ⟨?_, P, jI_r (jI_c J0 ⟨h1, h2, h3⟩) g1⟩
        rcases hx' with ⟨m', r', ⟨hm', hr', em, er⟩, _, rfl⟩ | ⟨n', _⟩
        · have := nI_uq hm hm' em
          subst this
          have := (nI_eq (by omega) (by omega)).mp er
          subst this
          exact (cr_esc hw h1 g1.1 hm hr).symm
        · exact absurd ⟨m, r, ⟨hm, hr, rfl, rfl⟩, o⟩ n'
      · refine ⟨fun x M' => x = -1 ∧ M' = Mc, fm_ct_mono (fun r M' h => ⟨_, h.1, rfl, h.2⟩) (k_E_escape_o Mc jc hw hm hr o), fun x Mc' hx => ⟨_, k_R_escape Mr jr hw b' jb' jt' _ _, fun x' Mr' hx' => ?_⟩⟩
        obtain ⟨rfl, rfl⟩ := hx
        obtain ⟨g1, hx'⟩ := hx'
        refine ⟨?_, P, jI_r J0 g1⟩
        rcases hx' with ⟨m', r', ⟨hm', hr', em, er⟩, o', _⟩ | ⟨n', rfl⟩
        · have := nI_uq hm hm' em
          subst this
          have := (nI_eq (by omega) (by omega)).mp er
          subst this
          exact absurd o' o
        · rfl
    · refine ⟨fun x M' => x = -1 ∧ M' = Mc, fm_ct_mono (fun r M' h => ⟨_, h.1, rfl, h.2⟩) (k_E_escape_m Mc jc hw hm w (fun q => y ((inR_iff (by omega)).mpr q))), fun x Mc' hx => ⟨_, k_R_escape Mr jr hw b' jb' jt' _ _, fun x' Mr' hx' => ?_⟩⟩
      obtain ⟨rfl, rfl⟩ := hx
      obtain ⟨g1, hx'⟩ := hx'
      refine ⟨?_, P, jI_r J0 g1⟩
      rcases hx' with ⟨m', r', ⟨hm', hr', em, er⟩, _, _⟩ | ⟨n', rfl⟩
      · have := nI_uq hm hm' em
        subst this
        exact absurd ⟨r', hr', er⟩ y
      · rfl
  · refine ⟨fun x M' => x = -1 ∧ M' = Mc, fm_ct_mono (fun r M' h => ⟨_, h.1, rfl, h.2⟩) (k_E_escape_n Mc v w (inR_no z)), fun x Mc' hx => ⟨_, k_R_escape Mr jr hw b' jb' jt' _ _, fun x' Mr' hx' => ?_⟩⟩
    obtain ⟨rfl, rfl⟩ := hx
    obtain ⟨g1, hx'⟩ := hx'
    refine ⟨?_, P, jI_r J0 g1⟩
    rcases hx' with ⟨m', r', ⟨hm', hr', em, er⟩, _, _⟩ | ⟨n', rfl⟩
    · exact absurd ⟨m', hm', em⟩ z
    · rfl
end JP
