theorem nI_inj {a b : Nat} (ha : a < 2 ^ 31) (hb : b < 2 ^ 31) (h : nI a = nI b) : a = b := (nI_eq ha hb).mp h
theorem Rbm_lay {sz : Int32} {bc bw bl ib ba bb bt : Nat → Int32} (h : Rbm sz bc bw bl ib ba bb bt) {k a w t : Nat} (hk : k < 20) (h0 : ib k = 0) (ha : a < 96) (hw1 : 1 ≤ w) (hw4 : w ≤ 4) (hb : ah a w < 96) (ht : t ≤ 9) (hno : ∀ j, j < 20 → ib j = 1 → ¬ Jn ba bb j a (ah a w)) :
    Rbm (sz + 1) (upd bc k (nI a)) (upd bw k (nI w)) (upd (upd bl (a * 5 + w) (nI t)) (ah a w * 5 + op w) (nI t)) (upd ib k 1) (upd ba k (nI a)) (upd bb k (nI (ah a w))) (upd bt k (nI t)) := by
  obtain ⟨h1, h2, h3, h4⟩ := h
  have o1 := op_rng w (by omega) hw1
  have o2 := op_ah a ha w (by omega) hb
  have jk : ∀ x y, x < 96 → y < 96 → Jn (upd ba k (nI a)) (upd bb k (nI (ah a w))) k x y → (x = a ∧ y = ah a w) ∨ (x = ah a w ∧ y = a) := by
    intro x y hx hy q
    unfold Jn at q
    rw [upd_eq, upd_eq] at q
    rcases q with ⟨q1, q2⟩ | ⟨q1, q2⟩
    · exact Or.inl ⟨(nI_inj (by omega) (by omega) q1).symm, (nI_inj (by omega) (by omega) q2).symm⟩
    · exact Or.inr ⟨(nI_inj (by omega) (by omega) q2).symm, (nI_inj (by omega) (by omega) q1).symm⟩
  have jo : ∀ j x y, j ≠ k → Jn (upd ba k (nI a)) (upd bb k (nI (ah a w))) j x y → Jn ba bb j x y := fun j x y hj q => by unfold Jn at q ⊢; rwa [upd_ne hj, upd_ne hj] at q
  have jo' : ∀ j x y, j ≠ k → Jn ba bb j x y → Jn (upd ba k (nI a)) (upd bb k (nI (ah a w))) j x y := fun j x y hj q => by unfold Jn at q ⊢; rwa [upd_ne hj, upd_ne hj]
  refine ⟨?_, ?_, ?_, ?_⟩
  · rw [isum_upd, if_pos hk, h0, ← h1, Int32.sub_zero]
  · intro j hj
    by_cases hq : j = k
    · subst hq
      exact Or.inr ⟨upd_eq, a, w, t, ha, hw1, hw4, hb, upd_eq, upd_eq, upd_eq, upd_eq, ht, upd_eq⟩
    · rw [upd_ne hq, upd_ne hq, upd_ne hq, upd_ne hq, upd_ne hq, upd_ne hq]
      exact h2 j hj
  · intro c v hc hv1 hv4
    have idx : ∀ c' v', 1 ≤ v' → v' ≤ 4 → c * 5 + v = c' * 5 + v' → c = c' ∧ v = v' := fun c' v' q1 q2 q3 => by omega
    refine ⟨fun j hj hj1 hjb hJ => ?_, fun hall => ?_⟩
    · by_cases hq : j = k
      · subst hq
        rw [upd_eq]
        rcases jk c (ah c v) hc hjb hJ with ⟨e1, e2⟩ | ⟨e1, e2⟩
        · subst e1
          have : v = w := (ah_injw c hc v (by omega) w (by omega) hjb e2)
          subst this
          by_cases hz : c * 5 + v = ah c v * 5 + op v
          · rw [hz, upd_eq]
          · rw [upd_ne hz, upd_eq]
        · have : v = op w := by
            rw [e1] at e2 hjb
            exact ah_injw (ah a w) hb v (by omega) (op w) (by omega) hjb (by rw [e2, o2])
          subst this
          rw [e1, upd_eq]
      · rw [upd_ne hq]
        rw [upd_ne hq] at hj1
        have hJ' := jo j c (ah c v) hq hJ
        have old := (h3 c v hc hv1 hv4).1 j hj hj1 hjb hJ'
        rw [upd_ne, upd_ne, old]
        · intro e
          obtain ⟨e1, e2⟩ := idx a w hw1 hw4 e
          subst e1; subst e2
          exact hno j hj hj1 hJ'
        · intro e
          obtain ⟨e1, e2⟩ := idx (ah a w) (op w) o1.1 o1.2 e
          rw [e1, e2, o2] at hJ'
          exact hno j hj hj1 (Jn_sym hJ')
    · have n1 : c * 5 + v ≠ a * 5 + w := fun e => by
        obtain ⟨e1, e2⟩ := idx a w hw1 hw4 e
        subst e1; subst e2
        exact hall k hk upd_eq hb (Or.inl ⟨upd_eq, upd_eq⟩)
      have n2 : c * 5 + v ≠ ah a w * 5 + op w := fun e => by
        obtain ⟨e1, e2⟩ := idx (ah a w) (op w) o1.1 o1.2 e
        have e3 : ah c v = a := by rw [e1, e2, o2]
        exact hall k hk upd_eq (by rw [e3]; exact ha) (by rw [e3, e1]; exact Or.inr ⟨upd_eq, upd_eq⟩)
      rw [upd_ne n2, upd_ne n1]
      refine (h3 c v hc hv1 hv4).2 fun j hj hj1 hjb hJ => ?_
      have hq : j ≠ k := fun e => by rw [e, h0] at hj1; exact absurd hj1 (by decide)
      exact hall j hj (by rw [upd_ne hq]; exact hj1) hjb (jo' j _ _ hq hJ)
  · intro j j' x y hj hj' hx hy hi hi' hJ hJ'
    by_cases hq : j = k
    · by_cases hq' : j' = k
      · rw [hq, hq']
      · exfalso
        rw [upd_ne hq'] at hi'
        have q := jo j' x y hq' hJ'
        subst hq
        rcases jk x y hx hy hJ with ⟨e1, e2⟩ | ⟨e1, e2⟩
        · rw [e1, e2] at q; exact hno j' hj' hi' q
        · rw [e1, e2] at q; exact hno j' hj' hi' (Jn_sym q)
    · by_cases hq' : j' = k
      · exfalso
        rw [upd_ne hq] at hi
        have q := jo j x y hq hJ
        subst hq'
        rcases jk x y hx hy hJ' with ⟨e1, e2⟩ | ⟨e1, e2⟩
        · rw [e1, e2] at q; exact hno j hj hi q
        · rw [e1, e2] at q; exact hno j hj hi (Jn_sym q)
      · rw [upd_ne hq] at hi
        rw [upd_ne hq'] at hi'
        exact h4 j j' x y hj hj' hx hy hi hi' (jo j x y hq hJ) (jo j' x y hq' hJ')
theorem Rbm_lift {sz : Int32} {bc bw bl ib ba bb bt : Nat → Int32} (h : Rbm sz bc bw bl ib ba bb bt) {k a w : Nat} (hk : k < 20) (h1k : ib k = 1) (ha : a < 96) (hw1 : 1 ≤ w) (hw4 : w ≤ 4) (hb : ah a w < 96) (e1 : ba k = nI a) (e2 : bb k = nI (ah a w)) :
    Rbm (sz - 1) (upd bc k (-1)) bw (upd (upd bl (a * 5 + w) (-1)) (ah a w * 5 + op w) (-1)) (upd ib k 0) ba bb bt := by
  obtain ⟨h1, h2, h3, h4⟩ := h
  have o1 := op_rng w (by omega) hw1
  have o2 := op_ah a ha w (by omega) hb
  have jk : ∀ x y, x < 96 → y < 96 → Jn ba bb k x y → (x = a ∧ y = ah a w) ∨ (x = ah a w ∧ y = a) := by
    intro x y hx hy q
    unfold Jn at q
    rw [e1, e2] at q
    rcases q with ⟨q1, q2⟩ | ⟨q1, q2⟩
    · exact Or.inl ⟨(nI_inj (by omega) (by omega) q1).symm, (nI_inj (by omega) (by omega) q2).symm⟩
    · exact Or.inr ⟨(nI_inj (by omega) (by omega) q2).symm, (nI_inj (by omega) (by omega) q1).symm⟩
  refine ⟨?_, ?_, ?_, ?_⟩
  · rw [isum_upd, if_pos hk, h1k, ← h1, Int32.zero_sub, Int32.sub_eq_add_neg]
  · intro j hj
    by_cases hq : j = k
    · subst hq
      exact Or.inl ⟨upd_eq, upd_eq⟩
    · rw [upd_ne hq, upd_ne hq]
      exact h2 j hj
  · intro c v hc hv1 hv4
    have idx : ∀ c' v', 1 ≤ v' → v' ≤ 4 → c * 5 + v = c' * 5 + v' → c = c' ∧ v = v' := fun c' v' q1 q2 q3 => by omega
    refine ⟨fun j hj hj1 hjb hJ => ?_, fun hall => ?_⟩
    · have hq : j ≠ k := fun e => by rw [e, upd_eq] at hj1; exact absurd hj1 (by decide)
      rw [upd_ne hq] at hj1
      have old := (h3 c v hc hv1 hv4).1 j hj hj1 hjb hJ
      rw [upd_ne, upd_ne, old]
      · intro e
        obtain ⟨q1, q2⟩ := idx a w hw1 hw4 e
        subst q1; subst q2
        exact hq (h4 j k c (ah c v) hj hk hc hb hj1 h1k hJ (Or.inl ⟨e1, e2⟩))
      · intro e
        obtain ⟨q1, q2⟩ := idx (ah a w) (op w) o1.1 o1.2 e
        rw [q1, q2, o2] at hJ
        exact hq (h4 j k (ah a w) a hj hk hb ha hj1 h1k hJ (Or.inr ⟨e1, e2⟩))
    · by_cases n2 : c * 5 + v = ah a w * 5 + op w
      · rw [n2, upd_eq]
      · by_cases n1 : c * 5 + v = a * 5 + w
        · rw [upd_ne n2, n1, upd_eq]
        · rw [upd_ne n2, upd_ne n1]
          refine (h3 c v hc hv1 hv4).2 fun j hj hj1 hjb hJ => ?_
          by_cases hq : j = k
          · subst hq
            rcases jk c (ah c v) hc hjb hJ with ⟨q1, q2⟩ | ⟨q1, q2⟩
            · subst q1
              exact n1 (by rw [ah_injw c hc v (by omega) w (by omega) hjb q2])
            · rw [q1] at q2 hjb
              have : v = op w := ah_injw (ah a w) hb v (by omega) (op w) (by omega) hjb (by rw [q2, o2])
              exact n2 (by rw [q1, this])
          · exact hall j hj (by rw [upd_ne hq]; exact hj1) hjb hJ
  · intro j j' x y hj hj' hx hy hi hi' hJ hJ'
    have hq : j ≠ k := fun e => by rw [e, upd_eq] at hi; exact absurd hi (by decide)
    have hq' : j' ≠ k := fun e => by rw [e, upd_eq] at hi'; exact absurd hi' (by decide)
    rw [upd_ne hq] at hi
    rw [upd_ne hq'] at hi'
    exact h4 j j' x y hj hj' hx hy hi hi' hJ hJ'
theorem st_boom {σ τ : ojS} (h : RRR σ τ) (a b c : Int32) : stp (f_X8_boom a b c σ) (f_X9_boom a b c τ) := by
  obtain ⟨N, S, K, P, hR⟩ := id h
  obtain ⟨hN, hS, hK, hP, hnet, hsky, hfs, hlq, hlo, haw, hfl, hskd, hhr, hpt, hbm, hsh⟩ := id hR
  unfold f_X8_boom f_X9_boom
  simp only [isWithin_eq]
  rcases sea_cases hnet a with ⟨e1, e2⟩ | ⟨va, hva, rfl, -, -, e1, e2⟩
  · rw [e1, e2]; exact ⟨_, σ, τ, rfl, rfl, h⟩
  rw [e1, e2]
  simp only [ojB1_s, if10]
  rcases sea_cases hnet b with ⟨e1, e2⟩ | ⟨vb, hvb, rfl, -, -, e1, e2⟩
  · rw [e1, e2]; exact ⟨_, σ, τ, rfl, rfl, h⟩
  rw [e1, e2]
  simp only [ojB1_s, if10]
  obtain ⟨w1, w2⟩ := wb_eq va hva vb hvb
  have wle := wb_le va vb
  have h01 := Rbm_01 hbm
  rw [w1, w2]
  simp only [ojB1_s]
  by_cases hw0 : wb va vb = 0
  · rw [if_pos hw0]
    simp only [if00]
    rcases in_cases c 0 9 (by decide) (by decide) with e | ⟨vc, -, hc, rfl, e⟩
    · rw [show f_X9_in c 0 9 = some 0 from e]; exact ⟨_, σ, τ, rfl, rfl, h⟩
    · rw [show f_X9_in (nI vc) 0 9 = some 1 from e]
      simp only [ojB1_s, if10]
      rw [if_pos (by rw [hw0]; rfl)]
      exact ⟨_, σ, τ, rfl, rfl, h⟩
  · rw [if_neg hw0]
    simp only [if10]
    have hab := wb_ah hw0
    have hah : ah va (wb va vb) < 96 := by rw [hab]; exact hvb
    rcases in_cases c 0 9 (by decide) (by decide) with e | ⟨vc, -, hc, rfl, e⟩
    · rw [show f_X9_in c 0 9 = some 0 from e]
      simp only [ojB1_s, if00]
      rcases boomAt_eq h01 va vb with ⟨k, q1, q2, q3, q4⟩ | ⟨q1, q2⟩
      · rw [q4]; simp only [ojB1_s]
        rw [if_neg (nI_ne_m1 (by omega))]; exact ⟨_, σ, τ, rfl, rfl, h⟩
      · rw [q2]; simp only [ojB1_s]
        exact ⟨-1, σ, τ, rfl, rfl, h⟩
    · rw [show f_X9_in (nI vc) 0 9 = some 1 from e]
      simp only [ojB1_s, if10]
      rw [if_neg (nI_ne0 (by omega) (by omega))]
      unfold f_X0_lay
      rw [show nI va * 5 + nI (wb va vb) = nI (va * 5 + wb va vb) from by rw [show (5 : Int32) = nI 5 from rfl, pk_mul, nI_add], ojChk_nI (by omega) (by decide), nI_clamp (by omega)]
      rcases boomAt_eq h01 va vb with ⟨k, q1, q2, q3, q4⟩ | ⟨q1, q2⟩
      · rw [q4]
        simp only [ojB1_s]
        rw [if_neg (nI_ne_m1 (by omega))]
        have et := (hbm.2.2.1 va (wb va vb) hva (by omega) wle).1 k q1 q2 hah (by rw [hab]; exact q3)
        rcases hbm.2.1 k q1 with ⟨z, -⟩ | ⟨-, a', v', t', -, -, -, -, -, -, -, -, z1, z2⟩
        · rw [q2] at z; exact absurd z (by decide)
        · rw [et, z2, if_neg (nI_ne_m1 (by omega))]
          exact ⟨_, σ, τ, rfl, rfl, h⟩
      · rw [q2]
        simp only [ojB1_s]
        rw [if_pos trivial]
        have et := (hbm.2.2.1 va (wb va vb) hva (by omega) wle).2 (fun k y1 y2 y3 y4 => q1 k y1 y2 (by rw [← hab]; exact y4))
        rw [if_pos et]
        rcases first20 (fun k => τ 5 k = 0) with ⟨k, k1, k2, k3⟩ | k1
        · have s4 : σ 4 k = -1 := by
            rcases hbm.2.1 k k1 with ⟨-, z⟩ | ⟨z, -⟩
            · exact z
            · rw [k2] at z; exact absurd z (by decide)
          have s4' : ∀ j, j < k → ¬ σ 4 j = -1 := fun j hj => by
            rcases hbm.2.1 j (by omega) with ⟨z, -⟩ | ⟨-, a', v', t', y1, -, -, -, y2, -⟩
            · exact absurd z (k3 j hj)
            · rw [y2]; exact nI_ne_m1 (by omega)
          rw [lay_at k1 s4 s4', mboom_at k1 k2 k3, both_eq hva (by omega) wle hah]
          simp only [ojBv_s, ojB2_s]
          refine ⟨nI k, _, _, rfl, rfl, N, S, K, P, hN, hS, hK, hP, hnet, hsky, hfs, hlq, hlo, haw, Rfl_fr hfl (fun j q1 q2 => by rw [ojU_ne (by omega), ojU_ne (by omega), ojU_ne (by omega), ojU_ne (by omega), ojU_ne (by omega)]) rfl ⟨rfl, rfl, rfl, rfl, rfl, rfl, rfl, rfl⟩, hskd, hhr, hpt, ?_, Rshs_fr hsh (fun j q1 q2 => by rw [ojU_ne (by omega), ojU_ne (by omega), ojU_ne (by omega), ojU_ne (by omega), ojU_ne (by omega)]) ⟨rfl, rfl, rfl, rfl, rfl⟩⟩
          have key := Rbm_lay hbm k1 k2 hva (show 1 ≤ wb va vb by omega) wle hah hc (fun j y1 y2 y3 => q1 j y1 y2 (by rw [← hab]; exact y3))
          rw [show nI vb = nI (ah va (wb va vb)) by rw [hab]]
          exact key
        · have s4' : ∀ j, j < 20 → ¬ σ 4 j = -1 := fun j hj => by
            rcases hbm.2.1 j (by omega) with ⟨z, -⟩ | ⟨-, a', v', t', y1, -, -, -, y2, -⟩
            · exact absurd z (k1 j hj)
            · rw [y2]; exact nI_ne_m1 (by omega)
          rw [lay_full s4', mboom_full k1]
          exact ⟨_, σ, τ, rfl, rfl, h⟩
theorem st_lift {σ τ : ojS} (h : RRR σ τ) (a : Int32) : stp (f_X8_lift a σ) (f_X9_lift a τ) := by
  obtain ⟨N, S, K, P, hR⟩ := id h
  obtain ⟨hN, hS, hK, hP, hnet, hsky, hfs, hlq, hlo, haw, hfl, hskd, hhr, hpt, hbm, hsh⟩ := id hR
  unfold f_X8_lift f_X9_lift f_X0_takeUp
  have e20 : ∀ x y : Option (Int32 × ojS), (if a < 0 then x else if 20 ≤ a then x else y) = ojB1 (f_X9_in a 0 19) (fun r => if r = 0 then x else y) := by
    intro x y
    unfold f_X9_in
    by_cases h1 : a < 0
    · rw [if_pos h1, if_pos h1]; rfl
    · rw [if_neg h1, if_neg h1]
      obtain ⟨j, hj, rfl⟩ := nI_of h1
      by_cases h2 : 20 ≤ j
      · rw [if_pos (show (20 : Int32) ≤ nI j from (nI_leI (a := 20) (by decide) hj).mpr h2), if_pos (show (19 : Int32) < nI j from (nI_ltI (a := 19) (by decide) hj).mpr (by omega))]; rfl
      · rw [if_neg (ge_20 (by omega)), if_neg (show ¬ (19 : Int32) < nI j from fun q => h2 ((nI_ltI (a := 19) (by decide) hj).mp q))]; rfl
  rw [e20]
  rcases in_cases a 0 19 (by decide) (by decide) with e | ⟨k, -, hk, rfl, e⟩
  · rw [show f_X9_in a 0 19 = some 0 from e]; exact ⟨_, σ, τ, rfl, rfl, h⟩
  rw [show f_X9_in (nI k) 0 19 = some 1 from e]
  have hk20 : k < 20 := by omega
  simp only [ojB1_s, if10, ojChk_nI hk20 (by decide), nI_clamp (show k < 2 ^ 31 by omega)]
  rcases hbm.2.1 k hk20 with ⟨z1, z2⟩ | ⟨z1, a', w, t, y1, y2, y3, y4, y5, y6, y7, y8, -⟩
  · rw [if_pos z2, if_pos z1]; exact ⟨_, σ, τ, rfl, rfl, h⟩
  · rw [if_neg (by rw [y5]; exact nI_ne_m1 (by omega)), if_neg (by rw [z1]; decide), y5, y6, both_eq y1 y2 y3 y4]
    simp only [ojBv_s, ojLet_s, ojB2_s, ojBl_1, nar_0]
    refine ⟨1, _, _, rfl, rfl, N, S, K, P, hN, hS, hK, hP, hnet, hsky, hfs, hlq, hlo, haw, Rfl_fr hfl (fun j q1 q2 => by rw [ojU_ne (by omega), ojU_ne (by omega), ojU_ne (by omega), ojU_ne (by omega)]) rfl ⟨rfl, rfl, rfl, rfl, rfl, rfl, rfl, rfl⟩, hskd, hhr, hpt, ?_, Rshs_fr hsh (fun j q1 q2 => by rw [ojU_ne (by omega), ojU_ne (by omega), ojU_ne (by omega), ojU_ne (by omega)]) ⟨rfl, rfl, rfl, rfl, rfl⟩⟩
    exact Rbm_lift hbm hk20 z1 y1 y2 y3 y4 y7 y8
