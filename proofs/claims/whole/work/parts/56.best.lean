theorem ow_trial {σ : ojS} {s n : Nat} : ∃ σ9, (ojBv (f_X3_begin (nI s) (nI n) σ) fun σ6 => ojChk 0 3 (f_X7_become (1 + (0 : Int32).toNatClampNeg) 0 σ6)) = some σ9 ∧ SB s n (0, -1) σ9 ∧ (∀ j, j ≠ 12 → j ≠ 20 → j ≠ 24 → j ≠ 28 → σ9 j = σ j) ∧ (∀ x, x < 96 → σ9 (23 + (1 + 0)) x = σ 23 x) ∧ ∀ i, i < 4 → σ9 (27 + (1 + 0)) i = σ 27 i := by
  unfold f_X3_begin
  simp only [ojLet_s, ojBv_s]
  rw [show ojChk (0 : Int32) 3 = ojChk (α := ojS) (nI 0) 3 from rfl, ojChk_nI (by decide) (by decide)]
  have c12 : ∀ j, j ≠ 12 → ojU (ojU (ojU (ojU (ojU σ 12 0 (nI s)) 12 1 (nI n)) 12 2 (-1)) 12 3 (-1)) 12 4 (-1) j = σ j := fun j q => by rw [ojU_ne q, ojU_ne q, ojU_ne q, ojU_ne q, ojU_ne q]
  have d12 : SB s n (0, -1) (ojU (ojU (ojU (ojU (ojU σ 12 0 (nI s)) 12 1 (nI n)) 12 2 (-1)) 12 3 (-1)) 12 4 (-1)) := by
    refine ⟨?_, ?_, ?_, ?_⟩
    · rw [ojU_eq, upd_ne (by decide), ojU_eq, upd_ne (by decide), ojU_eq, upd_ne (by decide), ojU_eq, upd_ne (by decide), ojU_eq, upd_eq]
    · rw [ojU_eq, upd_ne (by decide), ojU_eq, upd_ne (by decide), ojU_eq, upd_ne (by decide), ojU_eq, upd_eq]
    · rw [ojU_eq, upd_ne (by decide), ojU_eq, upd_eq]; decide
    · rw [ojU_eq, upd_eq]
  generalize ojU (ojU (ojU (ojU (ojU σ 12 0 (nI s)) 12 1 (nI n)) 12 2 (-1)) 12 3 (-1)) 12 4 (-1) = σ6 at c12 d12 ⊢
  obtain ⟨σ9, a1, a2, a3, a4⟩ := ow_become (σ := σ6) (n0 := 1 + 0) (n1 := 0) (by decide) (by decide)
  refine ⟨σ9, a1, ?_, fun j q1 q2 q3 q4 => by rw [a2 j (by omega) (by omega) (by omega), c12 j q1], fun x hx => by rw [a3 x hx, c12 (23 + 0) (by decide)], fun i hi => by rw [a4 i hi, c12 (27 + 0) (by decide)]⟩
  obtain ⟨b0, b1, b3, b4⟩ := d12
  have e := a2 12 (by decide) (by decide) (by decide)
  exact ⟨by rw [e]; exact b0, by rw [e]; exact b1, by rw [e]; exact b3, by rw [e]; exact b4⟩
theorem nxt_fs {N0 N S K s : Nat} {τ : ojS} {at_ rt rm : Nat → Nat} {a b : Int32} (hfs : Rfs N0 S a b) : ∀ k p c, (S = 0 → p.1 = fun _ => 0) → nxt τ N K s at_ rt rm a k p c = nxt τ N K s at_ rt rm b k p c ∧ (S = 0 → (nxt τ N K s at_ rt rm a k p c).1 = fun _ => 0) := by
  intro k p c h
  refine ⟨?_, fun h0 => ?_⟩
  · unfold nxt hrF
    rw [(age_eq (τ := τ) (wd := 0) (h := N + k) (L := p.1) hfs h).1]
  · unfold nxt hrF
    rw [h h0, hrL_0, skN_zero]
theorem st_best {σ τ : ojS} (h : RRR σ τ) (a b c : Int32) : stp (f_X8_best a b c σ) (f_X9_best a b c τ) := by
  obtain ⟨N, S, K, P, hR⟩ := id h
  obtain ⟨at_, rt, rm, L, ld, tt, hE, hFO, hFM, hL1, hL2, hD1, hD2, hl, ht, hsum, hS1, hS0, hld0, hats⟩ := pre_hour hR
  obtain ⟨hN, hS, hK, hP, hnet, hsky, hfs, hlq, hlo, haw, hfl, hskd, hhr, hpt, hbm, hsh⟩ := id hR
  unfold f_X8_best f_X9_best
  rw [isWithin_eq, isWithin_eq]
  rcases has_eq a σ K hK.1 hK.2.1 with ⟨h1, h2⟩ | ⟨s, hs, rfl, h1, h2⟩
  · rw [h1, h2 τ hK.2.2]; exact ⟨_, σ, τ, rfl, rfl, h⟩
  have hK4 := hK.1
  have hs4 : s < 4 := by omega
  rw [h1, h2 τ hK.2.2]
  simp only [ojB1_s, if10, ifF, ojChk_nI hs4 (by decide), nI_clamp (show s < 2 ^ 31 by omega)]
  obtain ⟨g1, g2, g3, g4, g5, g6⟩ := hfl s hs4
  obtain ⟨e1, e2, e3, e4, -, -, -, d, -, -, -, -, -, -, -, -, -, hd1, hd, f11, -, -⟩ := g5 hs
  rw [g3]
  by_cases hw : τ 16 s = 0
  · rw [if_pos hw, if_pos hw]
    rcases in_cases b 1 3 (by decide) (by decide) with e | ⟨n, hn1, hn, rfl, e⟩
    · rw [show f_X9_in b 1 3 = some 0 from e]; exact ⟨_, σ, τ, rfl, rfl, h⟩
    rw [show f_X9_in (nI n) 1 3 = some 1 from e]
    simp only [ojB1_s, if10, ifF]
    rcases in_cases c 0 1 (by decide) (by decide) with e | ⟨vc, -, hvc, rfl, e⟩
    · rw [show f_X9_in c 0 1 = some 0 from e]; exact ⟨_, σ, τ, rfl, rfl, h⟩
    rw [show f_X9_in (nI vc) 0 1 = some 1 from e]
    simp only [ojB1_s, if10, ifF, ojLet_s]
    have hsa := hats s hs
    have hat := (hFO s hs).2.2.2.1
    have hok : okp K rm (L, ld) := ⟨by show nsum L 96 ≤ 1000000; omega, hl⟩
    obtain ⟨r, rfl⟩ : ∃ r, n = r + 1 := ⟨n - 1, by omega⟩
    -- the class
    obtain ⟨σ9, a1, a2, a3, a4, a5⟩ := ow_trial (σ := σ) (s := s) (n := r + 1)
    have SO9 : SO τ N K s d at_ rt rm (σ 0 12) σ9 := by
      refine ⟨EV_fr hE (a3 2 (by decide) (by decide) (by decide) (by decide)) (a3 8 (by decide) (by decide) (by decide) (by decide)) (a3 3 (by decide) (by decide) (by decide) (by decide)) (a3 4 (by decide) (by decide) (by decide) (by decide)) (a3 5 (by decide) (by decide) (by decide) (by decide)) (a3 6 (by decide) (by decide) (by decide) (by decide)) (a3 9 (by decide) (by decide) (by decide) (by decide)) rfl rfl rfl rfl rfl rfl rfl rfl, fun i hi => ?_, ?_, ?_, ?_⟩
      · rw [a3 (15 + i) (by omega) (by omega) (by omega) (by omega)]; exact hFO i hi
      · rw [a3 0 (by decide) (by decide) (by decide) (by decide)]; exact hN.2.1
      · rw [a3 0 (by decide) (by decide) (by decide) (by decide)]
      · rw [a3 (15 + s) (by omega) (by omega) (by omega) (by omega), e4]; exact f11
    obtain ⟨σ', b1, b2, b3, -⟩ := ow_search hN.1 hs hd hn r 0 4 (at_ s) (L, ld) 0 (-1) (0, -1) σ9 (by omega) (by omega) hat hsa hok (Nat.zero_le _) (by decide) SO9 (fun x hx => by rw [a4 x hx]; exact hL1 x hx) (fun i hi => by rw [a5 i hi]; exact hD1 i hi) a2 (fun z => absurd rfl z)
    have hclass : (ojBv (f_X3_begin (nI s) (nI (r + 1)) σ) fun σ6 => ojChk 0 3 (ojBv (f_X7_become (1 + (0 : Int32).toNatClampNeg) 0 σ6) fun σ9 => ojBv (f_X8_searchHour 4 0 (σ9 (15 + s) 0) 0 σ9) fun σ12 => if nI vc = 0 then some (σ12 12 3, σ12) else some (σ12 12 4, σ12))) = some (if nI vc = 0 then σ' 12 3 else σ' 12 4, σ') := by
      have key : ∀ (F : ojS → Option (Int32 × ojS)), (ojBv (f_X3_begin (nI s) (nI (r + 1)) σ) fun σ6 => ojChk 0 3 (ojBv (f_X7_become (1 + (0 : Int32).toNatClampNeg) 0 σ6) F)) = F σ9 := fun F => by
        unfold f_X3_begin at a1 ⊢
        simp only [ojLet_s, ojBv_s] at a1 ⊢
        rw [show ojChk (0 : Int32) 3 = ojChk (α := ojS) (nI 0) 3 from rfl, ojChk_nI (by decide) (by decide)] at a1
        rw [show ojChk (0 : Int32) 3 = ojChk (α := Int32 × ojS) (nI 0) 3 from rfl, ojChk_nI (by decide) (by decide), a1]
        simp only [ojBv_s]
      rw [key]
      rw [(SO9.2.1 s hs).1, show f_X8_searchHour 4 0 (nI (at_ s)) 0 σ9 = some σ' from b1]
      simp only [ojBv_s]
      by_cases q : nI vc = 0
      · rw [if_pos q, if_pos q]
      · rw [if_neg q, if_neg q]
    rw [hclass]
    -- the reference
    have hX : CX σ τ N K s d at_ rt rm := ⟨hE, hFM, hN.1, hs, hd1, hd, f11⟩
    have u14 : ojU τ 0 30 (-1) 14 s = τ 14 s := by rw [ojU_ne (by decide)]
    rw [u14]
    have hM0 : Mst τ N K s 0 at_ (τ 14 s) (L, ld) (at_ s) 0 (ojU τ 0 30 (-1)) := by
      refine ⟨fun j q1 _ _ _ _ _ _ => ojU_ne q1, fun j _ _ _ _ q5 _ => by rw [ojU_eq, upd_ne q5], by rw [ojU_eq, upd_ne (by decide)]; exact hN.2.2, fun x hx => by rw [ojU_ne (by decide)]; exact hL2 x hx, fun i hi => by rw [ojU_ne (by decide)]; exact hD2 i hi, fun i hi => ?_, by rw [u14]; exact (Int32.add_zero _).symm⟩
      rw [ojU_ne (by decide), (hFM i hi).1]
      by_cases q : i = s
      · rw [if_pos q, q]
      · rw [if_neg q]
    obtain ⟨v, c1, c2, c3⟩ := md_53b hX (a3 := nI vc) (n := r + 1) (r := r) (a := at_ s) (p := (L, ld)) (b := (0, τ 0 31)) rfl hn hat hok (Nat.zero_le _) (Nat.zero_le _) hM0 ⟨by rw [ojU_eq, upd_eq]; show (-1 : Int32) = mI 0; decide, by rw [ojU_eq, upd_ne (by decide)]⟩ (-1)
    rw [c1]
    have efs := srch_fs (R := Rr τ d) (s := s) (ok := fun p => S = 0 → p.1 = fun _ => 0) (nxt_fs (τ := τ) (N := N) (K := K) (s := s) (at_ := at_) (rt := rt) (rm := rm) hfs) (r + 1) (at_ s) 0 (L, ld) 0 (-1) (0, -1) hS0
    rw [efs] at b3
    have hRR : Rr τ d (at_ s) (at_ s) := ⟨hsa, by obtain ⟨d, rfl⟩ : ∃ q, d = q + 1 := ⟨d - 1, by omega⟩; exact Or.inl rfl⟩
    have hany := srch_any (R := Rr τ d) (nx := nxt τ N K s at_ rt rm (τ 0 10)) (s := s) (r + 1) (at_ s) 0 (L, ld) 0 (-1) (0, -1) hat hRR
    obtain ⟨w1, w2⟩ := srch_rel (R := Rr τ d) (nx := nxt τ N K s at_ rt rm (τ 0 10)) (s := s) (r + 1) (at_ s) 0 (L, ld) 0 (-1) (0, -1) (0, τ 0 31) ⟨rfl, fun z => absurd rfl z⟩
    obtain ⟨-, -, z3, z4⟩ := b3
    obtain ⟨y3, y4⟩ := c3
    refine ⟨_, σ', v, rfl, ?_, N, S, K, P, RR_fr2 hR (fun j q1 q2 => by rw [b2 j q1 (by omega) (by omega) (by omega), a3 j q1 (by omega) (by omega) (by omega)]) (fun j q1 q2 q3 q4 q5 q6 => by rw [c2.1 j (by omega) q3 q4 q5 q6 (by omega) (by omega), ojU_ne (by omega)]) (fun x hx => by rw [c2.2.1 x hx, ojU_ne (by decide)]) (fun i hi => by rw [(c2.2.2.1 i hi).1, (c2.2.2.1 i hi).2.1, (c2.2.2.1 i hi).2.2, ojU_ne (by decide), ojU_ne (by decide), ojU_ne (by decide)]; exact ⟨rfl, rfl, rfl⟩) (fun j q1 q2 => by rw [c2.2.2.2.1 j q1 q2, ojU_eq, upd_ne q1])⟩
    by_cases q : nI vc = 0
    · rw [if_pos q, if_pos q, z3, y3, w1]
    · rw [if_neg q, if_neg q, z4, y4, w2 hany]
  · rw [if_neg hw, if_neg hw]
    rcases in_cases b 1 3 (by decide) (by decide) with e | ⟨n, hn1, hn, rfl, e⟩
    · rw [show f_X9_in b 1 3 = some 0 from e]; exact ⟨_, σ, τ, rfl, rfl, h⟩
    rw [show f_X9_in (nI n) 1 3 = some 1 from e]
    rcases in_cases c 0 1 (by decide) (by decide) with e | ⟨vc, -, hvc, rfl, e⟩
    · rw [show f_X9_in c 0 1 = some 0 from e]; exact ⟨_, σ, τ, rfl, rfl, h⟩
    rw [show f_X9_in (nI vc) 0 1 = some 1 from e]
    exact ⟨_, σ, τ, rfl, rfl, h⟩
