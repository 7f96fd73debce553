theorem nsum_upd {L : Nat → Nat} {c v : Nat} : ∀ {n : Nat}, nsum (fun x => if x = c then L x + v else L x) n = nsum L n + if c < n then v else 0
  | 0 => rfl
  | n + 1 => by
    rw [nsum, nsum, nsum_upd]
    by_cases h1 : n = c
    · subst h1
      rw [if_pos rfl, if_neg (Nat.lt_irrefl n), if_pos (Nat.lt_succ_self n)]; omega
    · rw [if_neg h1]
      by_cases h2 : c < n
      · rw [if_pos h2, if_pos (by omega)]; omega
      · rw [if_neg h2, if_neg (by omega)]; omega
theorem nI_ne_m1 {n : Nat} (h : n < 2 ^ 31) : ¬ nI n = -1 := fun e => by
  have h1 := congrArg Int32.toInt e
  rw [nI_toInt h] at h1
  have : (-1 : Int32).toInt = -1 := by decide
  omega
theorem st_spill_fin {N S K P : Nat} {σ τ σ1 τ1 : ojS} {c v : Nat} (hc : c < 96) (hv : 1 ≤ v) (hSv : S + v ≤ 1000000) (h : RR N S K P σ τ)
    (e1 : ∀ k, k ≠ 0 → σ1 k = σ k) (e2 : ∀ j, j ≠ 12 → σ1 0 j = σ 0 j) (e3 : ∀ k, k ≠ 0 → τ1 k = τ k) (e4 : ∀ j, j ≠ 10 → τ1 0 j = τ 0 j) (e5 : ∃ f, f ≤ N ∧ σ1 0 12 = nI f ∧ τ1 0 10 = nI f) :
    stp (f_X8_spill_49 (nI c) (nI v) σ1) (f_X9_spill_47 (nI c) (nI v) τ1) := by
  obtain ⟨hN, hS, hK, hP, hnet, hsky, hfs, hlq, hlo, haw, hfl, hskd, hhr, hpt, hbm, hsh⟩ := h
  obtain ⟨L, t, q1, q2, q3⟩ := hlq
  unfold f_X8_spill_49 f_X9_spill_47
  simp only [ojLet_s, ojChk_nI hc (by decide), nI_clamp (show c < 2 ^ 31 by omega)]
  have rs : ∀ k, k ≠ 0 → k ≠ 23 → ojU (ojU σ1 0 11 (σ1 0 11 + nI v)) (23 + 0) c (ojU σ1 0 11 (σ1 0 11 + nI v) (23 + 0) c + nI v) k = σ k := fun k h1 h2 => by rw [ojU_ne h2, ojU_ne h1, e1 k h1]
  have rt : ∀ k, k ≠ 0 → k ≠ 2 → ojU (ojU τ1 0 9 (τ1 0 9 + nI v)) 2 c (ojU τ1 0 9 (τ1 0 9 + nI v) 2 c + nI v) k = τ k := fun k h1 h2 => by rw [ojU_ne h2, ojU_ne h1, e3 k h1]
  have rs0 : ∀ j, j ≠ 11 → j ≠ 12 → ojU (ojU σ1 0 11 (σ1 0 11 + nI v)) (23 + 0) c (ojU σ1 0 11 (σ1 0 11 + nI v) (23 + 0) c + nI v) 0 j = σ 0 j := fun j h1 h2 => by rw [ojU_ne (by omega), ojU_eq, upd_ne h1, e2 j h2]
  have rt0 : ∀ j, j ≠ 9 → j ≠ 10 → ojU (ojU τ1 0 9 (τ1 0 9 + nI v)) 2 c (ojU τ1 0 9 (τ1 0 9 + nI v) 2 c + nI v) 0 j = τ 0 j := fun j h1 h2 => by rw [ojU_ne (by omega), ojU_eq, upd_ne h1, e4 j h2]
  have rs23 : ∀ x, x < 96 → ojU (ojU σ1 0 11 (σ1 0 11 + nI v)) (23 + 0) c (ojU σ1 0 11 (σ1 0 11 + nI v) (23 + 0) c + nI v) 23 x = nI (if x = c then L x + v else L x) := fun x hx => by
    rw [show (23 : Nat) = 23 + 0 from rfl, ojU_eq, ojU_ne (by omega), e1 _ (by omega)]
    by_cases hq : x = c
    · subst hq; rw [if_pos rfl, upd_eq, (q1 x hx).1, nI_add]
    · rw [if_neg hq, upd_ne hq, (q1 x hx).1]
  have rt2 : ∀ x, x < 96 → ojU (ojU τ1 0 9 (τ1 0 9 + nI v)) 2 c (ojU τ1 0 9 (τ1 0 9 + nI v) 2 c + nI v) 2 x = nI (if x = c then L x + v else L x) := fun x hx => by
    rw [ojU_eq, ojU_ne (by omega), e3 _ (by omega)]
    by_cases hq : x = c
    · subst hq; rw [if_pos rfl, upd_eq, (q1 x hx).2, nI_add]
    · rw [if_neg hq, upd_ne hq, (q1 x hx).2]
  refine ⟨_, _, _, rfl, by rw [show (23 + 0 : Nat) = 23 from rfl, rs23 c hc, rt2 c hc], N, S + v, K, P, ?_⟩
  refine ⟨by rw [rs0 10 (by omega) (by omega), rt0 0 (by omega) (by omega)]; exact hN, ⟨hSv, ?_, ?_⟩, by rw [rs 9 (by omega) (by omega), rt0 14 (by omega) (by omega)]; exact hK, by rw [rs0 9 (by omega) (by omega), rt0 23 (by omega) (by omega)]; exact hP, by rw [rs 2 (by omega) (by omega), rt 1 (by omega) (by omega)]; exact hnet, by rw [rs 8 (by omega) (by omega), rt 3 (by omega) (by omega), rt 4 (by omega) (by omega)]; exact hsky, ⟨fun q => by omega, fun _ => ?_⟩, ?_, ?_⟩
  · rw [ojU_ne (by omega), ojU_eq, upd_eq, e2 11 (by omega), hS.2.1, nI_add]
  · rw [ojU_ne (by omega), ojU_eq, upd_eq, e4 9 (by omega), hS.2.2, nI_add]
  · obtain ⟨f, f1, f2, f3⟩ := e5
    refine ⟨f, f1, ?_, ?_⟩
    · rw [ojU_ne (by omega), ojU_eq, upd_ne (by omega), f2]
    · rw [ojU_ne (by omega), ojU_eq, upd_ne (by omega), f3]
  · refine ⟨fun x => if x = c then L x + v else L x, t, fun x hx => ⟨rs23 x hx, rt2 x hx⟩, by rw [rt 14 (by omega) (by omega)]; exact q2, ?_⟩
    rw [nsum_upd, if_pos hc]; omega
  · refine ⟨by rw [rs 19 (by omega) (by omega), rt0 11 (by omega) (by omega)]; exact hlo, by rw [rs 19 (by omega) (by omega), rt0 12 (by omega) (by omega)]; exact haw, Rfl_fr hfl (fun k _ _ => rs k (by omega) (by omega)) (rs 27 (by omega) (by omega)) ⟨rt 9 (by omega) (by omega), rt 10 (by omega) (by omega), rt 11 (by omega) (by omega), rt 12 (by omega) (by omega), rt 13 (by omega) (by omega), rt 14 (by omega) (by omega), rt 16 (by omega) (by omega), rt 1 (by omega) (by omega)⟩, by rw [rt0 13 (by omega) (by omega), rt 14 (by omega) (by omega)]; exact hskd, by rw [rs0 13 (by omega) (by omega), rt 15 (by omega) (by omega)]; exact hhr, by rw [rs 14 (by omega) (by omega), rt 20 (by omega) (by omega)]; exact hpt, by rw [rs 3 (by omega) (by omega), rs 4 (by omega) (by omega), rs 5 (by omega) (by omega), rs 6 (by omega) (by omega), rt 5 (by omega) (by omega), rt 6 (by omega) (by omega), rt 7 (by omega) (by omega), rt 8 (by omega) (by omega)]; exact hbm, Rshs_fr hsh (fun k _ _ => rs k (by omega) (by omega)) ⟨rt 17 (by omega) (by omega), rt 18 (by omega) (by omega), rt 19 (by omega) (by omega), rt 1 (by omega) (by omega), rt 3 (by omega) (by omega)⟩⟩
theorem st_spill {σ τ : ojS} (h : RRR σ τ) (a b : Int32) : stp (f_X8_spill a b σ) (f_X9_spill a b τ) := by
  obtain ⟨N, S, K, P, hR⟩ := id h
  obtain ⟨hN, hS, hK, hP, hnet, hsky, hfs, hlq, hlo, haw, hfl, hskd, hhr, hpt, hbm, hsh⟩ := id hR
  unfold f_X8_spill f_X9_spill
  simp only [isWithin_eq]
  rcases sea_cases hnet a with ⟨e1, e2⟩ | ⟨c, hc, rfl, -, -, e1, e2⟩
  · rw [e1, e2]; exact ⟨_, σ, τ, rfl, rfl, h⟩
  rw [e1, e2]
  simp only [ojB1_s, if10]
  rcases in_cases b 1 100000 (by decide) (by decide) with e | ⟨v, hv1, hv, rfl, e⟩
  · rw [show f_X9_in b 1 100000 = some 0 from e]; exact ⟨_, σ, τ, rfl, rfl, h⟩
  rw [show f_X9_in (nI v) 1 100000 = some 1 from e]
  simp only [ojB1_s, if10]
  have hS1 := hS.1
  have hN1 := hN.1
  rw [hS.2.1, hS.2.2, nI_add, show (1000000 : Int32) = nI 1000000 from rfl]
  by_cases hle : S + v ≤ 1000000
  · have hle' : nI (S + v) ≤ nI 1000000 := (nI_leI (by omega) (by decide)).mpr hle
    rw [if_pos hle', if_pos hle']
    by_cases h0 : S = 0
    · have ht0 := hfs.1 h0
      rw [if_pos (show nI S = 0 by rw [h0]; rfl), if_pos ht0]
      simp only [ojLet_s]
      refine st_spill_fin hc hv1 hle hR (fun k hk => ojU_ne hk) (fun j hj => by rw [ojU_eq, upd_ne hj]) (fun k hk => ojU_ne hk) (fun j hj => by rw [ojU_eq, upd_ne hj]) ⟨N, Nat.le_refl _, ?_, ?_⟩
      · rw [ojU_eq, upd_eq, hN.2.1]
      · rw [ojU_eq, upd_eq, hN.2.2]
    · obtain ⟨f, f1, f2, f3⟩ := hfs.2 h0
      rw [if_neg (nI_ne0 (by omega) (by omega)), if_neg (by rw [f3]; exact nI_ne_m1 (by omega))]
      exact st_spill_fin hc hv1 hle hR (fun k _ => rfl) (fun j _ => rfl) (fun k _ => rfl) (fun j _ => rfl) ⟨f, f1, f2, f3⟩
  · have hle' : ¬ nI (S + v) ≤ nI 1000000 := fun q => hle ((nI_leI (by omega) (by decide)).mp q)
    rw [if_neg hle', if_neg hle']
    exact ⟨_, σ, τ, rfl, rfl, h⟩
theorem st_skimmer {σ τ : ojS} (h : RRR σ τ) (a b c d : Int32) : stp (f_X8_skimmer a b c d σ) (f_X9_skimmer a b c d τ) := by
  obtain ⟨N, S, K, P, hR⟩ := id h
  obtain ⟨hN, hS, hK, hP, hnet, hsky, hfs, hlq, hlo, haw, hfl, hskd, hhr, hpt, hbm, hsh⟩ := id hR
  unfold f_X8_skimmer f_X9_skimmer
  simp only [isWithin_eq]
  rcases sea_cases hnet a with ⟨e1, e2⟩ | ⟨va, hva, rfl, -, hsea, e1, e2⟩
  · rw [e1, e2]; exact ⟨_, σ, τ, rfl, rfl, h⟩
  rw [e1, e2]
  simp only [ojB1_s, if10]
  rcases in_cases b 1 5000 (by decide) (by decide) with e | ⟨vb, hb1, hb, rfl, e⟩
  · rw [show f_X9_in b 1 5000 = some 0 from e]; exact ⟨_, σ, τ, rfl, rfl, h⟩
  rw [show f_X9_in (nI vb) 1 5000 = some 1 from e]
  simp only [ojB1_s, if10]
  rcases in_cases c 0 100000 (by decide) (by decide) with e | ⟨vc, -, hc, rfl, e⟩
  · rw [show f_X9_in c 0 100000 = some 0 from e]; exact ⟨_, σ, τ, rfl, rfl, h⟩
  rw [show f_X9_in (nI vc) 0 100000 = some 1 from e]
  simp only [ojB1_s, if10]
  rcases in_cases d 1 3 (by decide) (by decide) with e | ⟨vd, hd1, hd, rfl, e⟩
  · rw [show f_X9_in d 1 3 = some 0 from e]; exact ⟨_, σ, τ, rfl, rfl, h⟩
  rw [show f_X9_in (nI vd) 1 3 = some 1 from e]
  simp only [ojB1_s, if10]
  unfold f_X1_add
  have hK4 := hK.1
  rw [hK.2.1, hK.2.2]
  by_cases hK0 : K = 4
  · rw [if_neg (show ¬ nI K < 4 by rw [hK0]; decide), if_pos (show nI K = 4 by rw [hK0]; rfl)]
    exact ⟨_, σ, τ, rfl, rfl, h⟩
  have hKl : K < 4 := by omega
  have t14 : τ 0 14 = nI K := hK.2.2
  have s91 : σ 9 1 = nI K := hK.2.1
  rw [if_pos (show nI K < 4 from (nI_ltI (b := 4) (by omega) (by decide)).mpr hKl), if_neg (show ¬ nI K = 4 from fun q => hK0 ((nI_eq (b := 4) (by omega) (by decide)).mp q))]
  simp only [ojChk_nI hKl (by decide), nI_clamp (show K < 2 ^ 31 by omega), ojLet_s, ojB2_s]
  have u1 : ojU τ 9 K (nI va) 0 14 = nI K := t14
  simp only [u1, ojChk_nI hKl (by decide), nI_clamp (show K < 2 ^ 31 by omega)]
  have u2 : ojU (ojU τ 9 K (nI va)) 10 K (nI vb) 0 14 = nI K := t14
  simp only [u2, ojChk_nI hKl (by decide), nI_clamp (show K < 2 ^ 31 by omega)]
  have u3 : ojU (ojU (ojU τ 9 K (nI va)) 10 K (nI vb)) 11 K (nI vc) 0 14 = nI K := t14
  simp only [u3, ojChk_nI hKl (by decide), nI_clamp (show K < 2 ^ 31 by omega)]
  have u4 : ojU (ojU (ojU (ojU τ 9 K (nI va)) 10 K (nI vb)) 11 K (nI vc)) 12 K (nI vd) 0 14 = nI K := t14
  simp only [u4, ojChk_nI hKl (by decide), nI_clamp (show K < 2 ^ 31 by omega)]
  have v1 : ojU (ojU (ojU (ojU σ (15 + K) 0 (nI va)) (15 + K) 1 (nI vb)) (15 + K) 2 (nI vc)) (15 + K) 3 (nI vd) 9 = σ 9 := by rw [ojU_ne (by omega), ojU_ne (by omega), ojU_ne (by omega), ojU_ne (by omega)]
  have w1 : ojU (ojU (ojU (ojU (ojU τ 9 K (nI va)) 10 K (nI vb)) 11 K (nI vc)) 12 K (nI vd)) 15 K (ojU (ojU (ojU (ojU τ 9 K (nI va)) 10 K (nI vb)) 11 K (nI vc)) 12 K (nI vd) 0 0) 0 14 = nI K := t14
  have w0 : ojU (ojU (ojU (ojU τ 9 K (nI va)) 10 K (nI vb)) 11 K (nI vc)) 12 K (nI vd) 0 0 = nI N := hN.2.2
  rw [v1, s91, w1, w0]
  have cs : ∀ k, k ≠ 9 → k ≠ 15 + K → ojU (ojU (ojU (ojU (ojU σ (15 + K) 0 (nI va)) (15 + K) 1 (nI vb)) (15 + K) 2 (nI vc)) (15 + K) 3 (nI vd)) 9 1 (nI K + 1) k = σ k := fun k h1 h2 => by rw [ojU_ne h1, ojU_ne h2, ojU_ne h2, ojU_ne h2, ojU_ne h2]
  have csK : ojU (ojU (ojU (ojU (ojU σ (15 + K) 0 (nI va)) (15 + K) 1 (nI vb)) (15 + K) 2 (nI vc)) (15 + K) 3 (nI vd)) 9 1 (nI K + 1) (15 + K) = upd (upd (upd (upd (σ (15 + K)) 0 (nI va)) 1 (nI vb)) 2 (nI vc)) 3 (nI vd) := by rw [ojU_ne (by omega), ojU_eq, ojU_eq, ojU_eq, ojU_eq]
  have cs9 : ojU (ojU (ojU (ojU (ojU σ (15 + K) 0 (nI va)) (15 + K) 1 (nI vb)) (15 + K) 2 (nI vc)) (15 + K) 3 (nI vd)) 9 1 (nI K + 1) 9 = upd (σ 9) 1 (nI K + 1) := by rw [ojU_eq, v1]
  generalize ojU (ojU (ojU (ojU (ojU σ (15 + K) 0 (nI va)) (15 + K) 1 (nI vb)) (15 + K) 2 (nI vc)) (15 + K) 3 (nI vd)) 9 1 (nI K + 1) = σ' at cs csK cs9 ⊢
  refine ⟨nI K + 1 - 1, _, _, by rw [cs9, upd_eq], rfl, N, S, K + 1, P, ?_⟩
  refine ⟨by rw [cs 0 (by omega) (by omega)]; exact hN, by rw [cs 0 (by omega) (by omega)]; exact hS, ⟨by omega, by rw [cs9, upd_eq, nI_1], by show nI K + 1 = _; rw [nI_1]⟩, by rw [cs 0 (by omega) (by omega)]; exact hP, by rw [cs 2 (by omega) (by omega)]; exact hnet, by rw [cs 8 (by omega) (by omega)]; exact hsky, by rw [cs 0 (by omega) (by omega)]; exact hfs, by rw [cs 23 (by omega) (by omega)]; exact hlq, by rw [cs 19 (by omega) (by omega)]; exact hlo, by rw [cs 19 (by omega) (by omega)]; exact haw, ?_, hskd, ?_, by rw [cs 14 (by omega) (by omega)]; exact hpt, by rw [cs 3 (by omega) (by omega), cs 4 (by omega) (by omega), cs 5 (by omega) (by omega), cs 6 (by omega) (by omega)]; exact hbm, Rshs_fr hsh (fun k _ _ => cs k (by omega) (by omega)) ⟨rfl, rfl, rfl, rfl, rfl⟩⟩
  · intro i hi
    show Rsk (K + 1) i (σ' (15 + i)) (σ' 27) (upd (τ 9) K (nI va)) (upd (τ 10) K (nI vb)) (upd (τ 11) K (nI vc)) (upd (τ 12) K (nI vd)) (τ 13) (τ 14) (τ 16) (τ 1)
    rw [cs 27 (by omega) (by omega)]
    obtain ⟨g1, g2, g3, g4, g5, g6⟩ := hfl i hi
    by_cases hq : i = K
    · subst hq
      rw [csK]
      obtain ⟨z1, z2⟩ := g6 (Nat.le_refl _)
      refine ⟨g1, by rw [upd_ne (by decide), upd_ne (by decide), upd_ne (by decide), upd_ne (by decide)]; exact g2, by rw [upd_ne (by decide), upd_ne (by decide), upd_ne (by decide), upd_ne (by decide)]; exact g3, g4, fun _ => ?_, fun q => by omega⟩
      refine ⟨by rw [upd_ne (by decide), upd_ne (by decide), upd_ne (by decide), upd_eq, upd_eq], by rw [upd_ne (by decide), upd_ne (by decide), upd_eq, upd_eq], by rw [upd_ne (by decide), upd_eq, upd_eq], by rw [upd_eq, upd_eq], va, vb, vc, vd, 0, hva, upd_eq, hsea, hb1, hb, upd_eq, hc, upd_eq, hd1, hd, upd_eq, by omega, z1⟩
    · rw [cs (15 + i) (by omega) (by omega)]
      refine ⟨g1, g2, g3, g4, fun hiK => ?_, fun q => g6 (by omega)⟩
      rw [upd_ne hq, upd_ne hq, upd_ne hq, upd_ne hq]
      exact g5 (by omega)
  · rw [cs 0 (by omega) (by omega)]
    obtain ⟨y1, y2⟩ := hhr
    refine ⟨?_, fun i hi => ?_⟩
    · show σ 0 13 = isum (fun i => nI N - upd (τ 15) K (nI N) i) (K + 1)
      rw [isum, upd_eq, Int32.sub_self, Int32.add_zero, y1]
      exact isum_congr (fun i hi => by rw [upd_ne (by omega)])
    · show ∃ c, c ≤ N ∧ upd (τ 15) K (nI N) i = nI c
      by_cases hq : i = K
      · subst hq; exact ⟨N, Nat.le_refl _, upd_eq⟩
      · rw [upd_ne hq]; exact y2 i (by omega)
