theorem isum_upd {f : Nat → Int32} {k : Nat} {v : Int32} : ∀ {n : Nat}, isum (upd f k v) n = isum f n + if k < n then v - f k else 0
  | 0 => by rw [if_neg (Nat.not_lt_zero k), Int32.add_zero]; rfl
  | n + 1 => by
    rw [isum, isum, isum_upd]
    by_cases h1 : n = k
    · subst h1
      rw [upd_eq, if_neg (Nat.lt_irrefl n), if_pos (Nat.lt_succ_self n), Int32.add_zero, Int32.add_assoc, Int32.add_comm (f n) (v - f n), Int32.sub_add_cancel]
    · rw [upd_ne h1]
      by_cases h2 : k < n
      · rw [if_pos h2, if_pos (by omega), Int32.add_assoc, Int32.add_comm (v - f k) (f n), Int32.add_assoc]
      · rw [if_neg h2, if_neg (by omega), Int32.add_zero, Int32.add_zero]
theorem Jn_sym {ba bb : Nat → Int32} {k x y : Nat} (h : Jn ba bb k x y) : Jn ba bb k y x := h.symm
theorem boomAt_eq {τ : ojS} (hb : ∀ k, k < 20 → τ 5 k = 0 ∨ τ 5 k = 1) (x y : Nat) :
    (∃ k, k < 20 ∧ τ 5 k = 1 ∧ Jn (τ 6) (τ 7) k x y ∧ f_X9_boomAt (nI x) (nI y) τ = some (nI k)) ∨ ((∀ k, k < 20 → τ 5 k = 1 → ¬ Jn (τ 6) (τ 7) k x y) ∧ f_X9_boomAt (nI x) (nI y) τ = some (-1)) := by
  unfold f_X9_boomAt f_X9_boomAt_2
  refine ojFix_inv (bot := fun _ => none) (fun (r : Int32 → Option Int32) a => r a) _ (fun k a => a = nI k ∧ ∀ j, j < k → τ 5 j = 1 → ¬ Jn (τ 6) (τ 7) j x y) (fun z => (∃ k, k < 20 ∧ τ 5 k = 1 ∧ Jn (τ 6) (τ 7) k x y ∧ z = some (nI k)) ∨ ((∀ k, k < 20 → τ 5 k = 1 → ¬ Jn (τ 6) (τ 7) k x y) ∧ z = some (-1))) 20 ?_ ?_ 600 0 0 (by decide) (by decide) ⟨rfl, fun j hj => by omega⟩
  · rintro r k a hk ⟨rfl, hI⟩
    try dsimp only
    rw [if_neg (ge_20 hk), ojChk_nI hk (by decide), nI_clamp (by omega)]
    have stepI : ¬ (τ 5 k = 1 ∧ Jn (τ 6) (τ 7) k x y) → ∃ a', (a' = nI (k + 1) ∧ ∀ j, j < k + 1 → τ 5 j = 1 → ¬ Jn (τ 6) (τ 7) j x y) ∧ r (nI k + 1) = r a' := fun hn => ⟨nI k + 1, ⟨nI_1 k, fun j hj h1 h2 => by
      by_cases hq : j = k
      · subst hq; exact hn ⟨h1, h2⟩
      · exact hI j (by omega) h1 h2⟩, rfl⟩
    rcases hb k hk with h0 | h1
    · rw [if_pos h0]
      simp only [ojLet_s]
      exact Or.inl (stepI (fun q => by rw [h0] at q; exact absurd q.1 (by decide)))
    · rw [if_neg (by rw [h1]; decide), ojChk_nI hk (by decide)]
      simp only [f_X9_boomAt_37, ojChk_nI hk (by decide), nI_clamp (show k < 2 ^ 31 by omega), ojLet_s]
      by_cases c1 : τ 6 k = nI x
      · rw [if_pos c1]
        by_cases c2 : τ 7 k = nI y
        · rw [if_pos c2]
          exact Or.inr (Or.inl ⟨k, hk, h1, Or.inl ⟨c1, c2⟩, rfl⟩)
        · rw [if_neg c2]
          by_cases c3 : τ 6 k = nI y
          · rw [if_pos c3]
            by_cases c4 : τ 7 k = nI x
            · rw [if_pos c4]
              exact Or.inr (Or.inl ⟨k, hk, h1, Or.inr ⟨c3, c4⟩, rfl⟩)
            · rw [if_neg c4]
              exact Or.inl (stepI (fun q => by rcases q.2 with ⟨q1, q2⟩ | ⟨q1, q2⟩ <;> contradiction))
          · rw [if_neg c3]
            exact Or.inl (stepI (fun q => by rcases q.2 with ⟨q1, q2⟩ | ⟨q1, q2⟩ <;> contradiction))
      · rw [if_neg c1]
        by_cases c3 : τ 6 k = nI y
        · rw [if_pos c3]
          by_cases c4 : τ 7 k = nI x
          · rw [if_pos c4]
            exact Or.inr (Or.inl ⟨k, hk, h1, Or.inr ⟨c3, c4⟩, rfl⟩)
          · rw [if_neg c4]
            exact Or.inl (stepI (fun q => by rcases q.2 with ⟨q1, q2⟩ | ⟨q1, q2⟩ <;> contradiction))
        · rw [if_neg c3]
          exact Or.inl (stepI (fun q => by rcases q.2 with ⟨q1, q2⟩ | ⟨q1, q2⟩ <;> contradiction))
  · rintro r a ⟨rfl, hI⟩
    try dsimp only
    rw [if_pos (show (20 : Int32) ≤ nI 20 by decide)]
    exact Or.inr ⟨hI, rfl⟩
theorem Rbm_01 {sz : Int32} {bc bw bl ib ba bb bt : Nat → Int32} (h : Rbm sz bc bw bl ib ba bb bt) : ∀ k, k < 20 → ib k = 0 ∨ ib k = 1 := fun k hk => (h.2.1 k hk).elim (fun q => Or.inl q.1) (fun q => Or.inr q.1)
/-- the table at c, w -/
theorem Rbm_tab {sz : Int32} {bc bw bl ib ba bb bt : Nat → Int32} (h : Rbm sz bc bw bl ib ba bb bt) {c w : Nat} (hc : c < 96) (h1 : 1 ≤ w) (h4 : w ≤ 4) :
    (∃ k t, k < 20 ∧ ib k = 1 ∧ ah c w < 96 ∧ Jn ba bb k c (ah c w) ∧ t ≤ 9 ∧ bt k = nI t ∧ bl (c * 5 + w) = nI t) ∨ ((∀ k, k < 20 → ib k = 1 → ah c w < 96 → ¬ Jn ba bb k c (ah c w)) ∧ bl (c * 5 + w) = -1) := by
  obtain ⟨-, hk, ht, -⟩ := h
  by_cases hx : ∀ k, k < 20 → ib k = 1 → ah c w < 96 → ¬ Jn ba bb k c (ah c w)
  · exact Or.inr ⟨hx, (ht c w hc h1 h4).2 hx⟩
  · have hx' : ∃ k, k < 20 ∧ ib k = 1 ∧ ah c w < 96 ∧ Jn ba bb k c (ah c w) := Classical.byContradiction fun q => hx fun k q1 q2 q3 q4 => q ⟨k, q1, q2, q3, q4⟩
    obtain ⟨k, q1, q2, q3, q4⟩ := hx'
    rcases hk k q1 with ⟨z, -⟩ | ⟨-, a, v, t, -, -, -, -, -, -, -, -, z1, z2⟩
    · rw [q2] at z; exact absurd z (by decide)
    · exact Or.inl ⟨k, t, q1, q2, q3, q4, z1, z2, by rw [(ht c w hc h1 h4).1 k q1 q2 q3 q4, z2]⟩
theorem endAt_eq {σ τ : ojS} (h : Rbm (σ 3 3) (σ 4) (σ 5) (σ 6) (τ 5) (τ 6) (τ 7) (τ 8)) {c : Nat} (hc : c < 96) :
    (f_X0_endAt (nI c) σ = some 1 ∧ ∃ k, k < 20 ∧ τ 5 k = 1 ∧ (τ 6 k = nI c ∨ τ 7 k = nI c)) ∨ (f_X0_endAt (nI c) σ = some 0 ∧ ∀ k, k < 20 → τ 5 k = 1 → ¬ (τ 6 k = nI c ∨ τ 7 k = nI c)) := by
  unfold f_X0_endAt f_X0_endAt_2
  refine ojFix_inv (bot := fun _ => none) (fun (r : Int32 → Option Int32) a => r a) _ (fun k a => a = nI (k + 1) ∧ ∀ w, 1 ≤ w → w ≤ k → σ 6 (c * 5 + w) = -1) (fun z => (z = some 1 ∧ ∃ k, k < 20 ∧ τ 5 k = 1 ∧ (τ 6 k = nI c ∨ τ 7 k = nI c)) ∨ (z = some 0 ∧ ∀ k, k < 20 → τ 5 k = 1 → ¬ (τ 6 k = nI c ∨ τ 7 k = nI c))) 4 ?_ ?_ 600 0 1 (by decide) (by decide) ⟨rfl, fun w h1 h2 => by omega⟩
  · rintro r k a hk ⟨rfl, hI⟩
    try dsimp only
    rw [if_neg (show ¬ (4 : Int32) < nI (k + 1) from nI_nlt (b := k + 1) (a := 4) (by omega) (by decide))]
    rw [show nI c * 5 + nI (k + 1) = nI (c * 5 + (k + 1)) from by rw [show (5 : Int32) = nI 5 from rfl, pk_mul, nI_add], ojChk_nI (by omega) (by decide), nI_clamp (by omega)]
    rcases Rbm_tab h hc (w := k + 1) (by omega) (by omega) with ⟨j, t, g1, g2, g3, g4, g5, g6, g7⟩ | ⟨g1, g2⟩
    · rw [if_neg (by rw [g7]; exact nI_ne_m1 (by omega))]
      refine Or.inr (Or.inl ⟨rfl, j, g1, g2, ?_⟩)
      rcases g4 with ⟨q1, q2⟩ | ⟨q1, q2⟩
      · exact Or.inl q1
      · exact Or.inr q2
    · rw [if_pos g2]
      simp only [ojLet_s]
      refine Or.inl ⟨nI (k + 1) + 1, ⟨nI_1 _, fun w q1 q2 => ?_⟩, rfl⟩
      by_cases hq : w = k + 1
      · subst hq; exact g2
      · exact hI w q1 (by omega)
  · rintro r a ⟨rfl, hI⟩
    try dsimp only
    rw [if_pos (show (4 : Int32) < nI (4 + 1) by decide)]
    refine Or.inr ⟨rfl, fun k hk h1 hq => ?_⟩
    obtain ⟨-, hkk, htt, -⟩ := h
    rcases hkk k hk with ⟨z, -⟩ | ⟨-, a, v, t, y1, y2, y3, y4, y5, y6, y7, y8, z1, z2⟩
    · rw [h1] at z; exact absurd z (by decide)
    · rw [y7, y8] at hq
      rcases hq with hq | hq
      · have hac : a = c := (nI_eq (by omega) (by omega)).mp hq
        subst hac
        have e1 := (htt a v y1 y2 y3).1 k hk h1 y4 (Or.inl ⟨y7, y8⟩)
        rw [hI v y2 y3, z2] at e1
        exact nI_ne_m1 (by omega) e1.symm
      · have hac : ah a v = c := (nI_eq (by omega) (by omega)).mp hq
        have o1 := op_rng v (by omega) y2
        have o2 := op_ah a y1 v (by omega) y4
        rw [hac] at o2
        have e1 := (htt c (op v) hc o1.1 o1.2).1 k hk h1 (by rw [o2]; exact y1) (by rw [o2]; exact Or.inr ⟨y7, by rw [y8, hac]⟩)
        rw [hI _ o1.1 o1.2, z2] at e1
        exact nI_ne_m1 (by omega) e1.symm
theorem first20 (f : Nat → Prop) : (∃ k, k < 20 ∧ f k ∧ ∀ j, j < k → ¬ f j) ∨ ∀ k, k < 20 → ¬ f k := by
  by_cases h : ∃ k, k < 20 ∧ f k
  · obtain ⟨k, ⟨h1, h2⟩, h3⟩ := pk_least (fun k => k < 20 ∧ f k) h
    exact Or.inl ⟨k, h1, h2, fun j hj hf => h3 j hj ⟨by omega, hf⟩⟩
  · exact Or.inr fun k hk hf => h ⟨k, hk, hf⟩
theorem both_eq {σ : ojS} {a w : Nat} {v : Int32} (ha : a < 96) (h1 : 1 ≤ w) (h4 : w ≤ 4) (hb : ah a w < 96) : f_X0_limitBothSides (nI a) (nI w) v σ = some (ojU (ojU σ 6 (a * 5 + w) v) 6 (ah a w * 5 + op w) v) := by
  unfold f_X0_limitBothSides
  have o1 := op_rng w (by omega) h1
  rw [ahead_eq a ha w (by omega)]
  simp only [ojB1_s, aI, if_pos hb, op_eq w (by omega), ojLet_s]
  rw [if_neg (nI_ne_m1 (by omega))]
  rw [show nI a * 5 + nI w = nI (a * 5 + w) from by rw [show (5 : Int32) = nI 5 from rfl, pk_mul, nI_add], show nI (ah a w) * 5 + nI (op w) = nI (ah a w * 5 + op w) from by rw [show (5 : Int32) = nI 5 from rfl, pk_mul, nI_add]]
  rw [ojChk_nI (by omega) (by decide), ojChk_nI (by omega) (by decide), nI_clamp (by omega), nI_clamp (by omega)]
theorem lay_at {σ : ojS} {a1 a2 a3 : Int32} {k : Nat} (hk : k < 20) (hf : σ 4 k = -1) (hj : ∀ j, j < k → ¬ σ 4 j = -1) : f_X0_lay_19 a1 a2 a3 0 σ = ojBv (f_X0_limitBothSides a1 a2 a3 (ojU (ojU σ 4 k a1) 5 k a2)) (fun σ5 => some (nI k, ojU σ5 3 3 (σ5 3 3 + 1))) := by
  unfold f_X0_lay_19
  refine ojFix_inv (bot := fun _ => none) (fun (r : Int32 → Option (Int32 × ojS)) a => r a) _ (fun j a => a = nI j) (fun z => z = ojBv (f_X0_limitBothSides a1 a2 a3 (ojU (ojU σ 4 k a1) 5 k a2)) (fun σ5 => some (nI k, ojU σ5 3 3 (σ5 3 3 + 1)))) k ?_ ?_ 600 0 0 (by omega) (by omega) rfl
  · rintro r j a hjk rfl
    try dsimp only
    rw [if_neg (ge_20 (show j < 20 by omega)), ojChk_nI (show j < 20 by omega) (by decide), nI_clamp (by omega), if_neg (hj j hjk)]
    exact Or.inl ⟨_, nI_1 j, rfl⟩
  · rintro r a rfl
    try dsimp only
    rw [if_neg (ge_20 hk), ojChk_nI hk (by decide), nI_clamp (by omega), if_pos hf]
    simp only [ojChk_nI hk (by decide), ojLet_s]
theorem lay_full {σ : ojS} {a1 a2 a3 : Int32} (hj : ∀ j, j < 20 → ¬ σ 4 j = -1) : f_X0_lay_19 a1 a2 a3 0 σ = some (-1, σ) := by
  unfold f_X0_lay_19
  refine ojFix_inv (bot := fun _ => none) (fun (r : Int32 → Option (Int32 × ojS)) a => r a) _ (fun j a => a = nI j) (fun z => z = some (-1, σ)) 20 ?_ ?_ 600 0 0 (by omega) (by omega) rfl
  · rintro r j a hjk rfl
    try dsimp only
    rw [if_neg (ge_20 hjk), ojChk_nI hjk (by decide), nI_clamp (by omega), if_neg (hj j hjk)]
    exact Or.inl ⟨_, nI_1 j, rfl⟩
  · rintro r a rfl
    rfl
theorem mboom_at {τ : ojS} {a1 a2 a3 : Int32} {k : Nat} (hk : k < 20) (hf : τ 5 k = 0) (hj : ∀ j, j < k → ¬ τ 5 j = 0) : f_X9_boom_49 a1 a2 a3 0 τ = some (nI k, ojU (ojU (ojU (ojU τ 5 k 1) 6 k a1) 7 k a2) 8 k a3) := by
  unfold f_X9_boom_49
  refine ojFix_inv (bot := fun _ => none) (fun (r : Int32 → Option (Int32 × ojS)) a => r a) _ (fun j a => a = nI j) (fun z => z = some (nI k, ojU (ojU (ojU (ojU τ 5 k 1) 6 k a1) 7 k a2) 8 k a3)) k ?_ ?_ 600 0 0 (by omega) (by omega) rfl
  · rintro r j a hjk rfl
    try dsimp only
    rw [if_neg (ge_20 (show j < 20 by omega)), ojChk_nI (show j < 20 by omega) (by decide), nI_clamp (by omega), if_neg (hj j hjk)]
    exact Or.inl ⟨_, nI_1 j, rfl⟩
  · rintro r a rfl
    try dsimp only
    rw [if_neg (ge_20 hk), ojChk_nI hk (by decide), nI_clamp (by omega), if_pos hf]
    simp only [ojChk_nI hk (by decide), ojLet_s, nar_1]
theorem mboom_full {τ : ojS} {a1 a2 a3 : Int32} (hj : ∀ j, j < 20 → ¬ τ 5 j = 0) : f_X9_boom_49 a1 a2 a3 0 τ = some (-1, τ) := by
  unfold f_X9_boom_49
  refine ojFix_inv (bot := fun _ => none) (fun (r : Int32 → Option (Int32 × ojS)) a => r a) _ (fun j a => a = nI j) (fun z => z = some (-1, τ)) 20 ?_ ?_ 600 0 0 (by omega) (by omega) rfl
  · rintro r j a hjk rfl
    try dsimp only
    rw [if_neg (ge_20 hjk), ojChk_nI hjk (by decide), nI_clamp (by omega), if_neg (hj j hjk)]
    exact Or.inl ⟨_, nI_1 j, rfl⟩
  · rintro r a rfl
    rfl
