theorem isum_ext {f : Nat → Int32} {K : Nat} : ∀ {n : Nat}, K ≤ n → (∀ i, K ≤ i → i < n → f i = 0) → isum f n = isum f K
  | 0, h, _ => by rw [show K = 0 by omega]
  | n + 1, h, h0 => by
    by_cases q : K = n + 1
    · rw [q]
    · rw [isum, h0 n (by omega) (by omega), Int32.add_zero, isum_ext (by omega) (fun i h1 h2 => h0 i h1 (by omega))]
theorem seaO {σ τ : ojS} (hnet : Rnet (σ 2) (τ 1)) {c : Nat} (hc : c < 96) : (τ 1 c = 0 ∧ f_X2_isSea (nI c) σ = some 1 ∧ τ 1 c ≤ 0) ∨ (τ 1 c ≠ 0 ∧ f_X2_isSea (nI c) σ = some 0 ∧ ¬ τ 1 c ≤ 0) := by
  obtain ⟨v, hv, e1, e2⟩ := hnet c hc
  unfold f_X2_isSea
  rcases cell_cases (nI c) with ⟨h1, -⟩ | ⟨c', hc', e, h1, -⟩
  · exfalso
    unfold f_X2_isCell at h1
    rw [if_neg (nI_pos (by omega)), if_neg (show ¬ (96 : Int32) ≤ nI c from ge_96 hc)] at h1
    exact absurd h1 (by decide)
  · rw [h1]
    simp only [ojB1_s, if10]
    simp only [ojChk_nI hc (by decide), nI_clamp (show c < 2 ^ 31 by omega)]
    rw [e1, e2]
    by_cases q : v = 0
    · subst q
      exact Or.inl ⟨rfl, rfl, by decide⟩
    · have hv0 : ¬ nI v = 0 := nI_ne0 (by omega) (by omega)
      refine Or.inr ⟨hv0, by rw [if_neg hv0], fun z => ?_⟩
      have := (nI_leI (a := v) (b := 0) (by omega) (by decide)).mp z
      omega
theorem ow_afl {σ τ : ojS} (hnet : Rnet (σ 2) (τ 1)) (n : Nat) : f_X8_litersAfloat n σ = some (isum (fun c => if τ 1 c = 0 then σ (23 + n) c else 0) 96) := by
  unfold f_X8_litersAfloat f_X8_litersAfloat_4
  refine ojFix_inv (bot := fun _ _ => none) (fun (rr : Int32 → Int32 → Option Int32) (q : Int32 × Int32) => rr q.1 q.2) _ (fun t q => q = (isum (fun c => if τ 1 c = 0 then σ (23 + n) c else 0) t, nI t)) (fun z => z = some (isum (fun c => if τ 1 c = 0 then σ (23 + n) c else 0) 96)) 96 ?_ ?_ 600 0 (0, 0) (by decide) (by decide) rfl
  · rintro r t q ht rfl
    dsimp only
    rw [if_neg (ge_96 ht)]
    rcases seaO hnet ht with ⟨a1, a2, -⟩ | ⟨a1, a2, -⟩
    · rw [a2]
      simp only [ojB1_s, if10, ifF, ojChk_nI ht (by decide), nI_clamp (show t < 2 ^ 31 by omega), ojLet_s]
      refine Or.inl ⟨(_, _), ?_, rfl⟩
      rw [isum, if_pos a1, nI_1]
    · rw [a2]
      simp only [ojB1_s, if00, ifT, ojLet_s]
      refine Or.inl ⟨(_, _), ?_, rfl⟩
      rw [isum, if_neg a1, nI_1]
  · rintro r q rfl
    dsimp only
    rw [if_pos (show (96 : Int32) ≤ nI 96 by decide)]
theorem md_afl {τ : ojS} : f_X9_count_72 0 0 τ = some (isum (fun c => if τ 1 c = 0 then τ 2 c else 0) 96) := by
  unfold f_X9_count_72
  refine ojFix_inv (bot := fun _ _ => none) (fun (rr : Int32 → Int32 → Option Int32) (q : Int32 × Int32) => rr q.1 q.2) _ (fun t q => q = (isum (fun c => if τ 1 c = 0 then τ 2 c else 0) t, nI t)) (fun z => z = some (isum (fun c => if τ 1 c = 0 then τ 2 c else 0) 96)) 96 ?_ ?_ 600 0 (0, 0) (by decide) (by decide) rfl
  · rintro r t q ht rfl
    dsimp only
    rw [if_neg (ge_96 ht)]
    simp only [ojChk_nI ht (by decide), nI_clamp (show t < 2 ^ 31 by omega), ojLet_s]
    by_cases a1 : τ 1 t = 0
    · rw [if_pos a1]
      refine Or.inl ⟨(_, _), ?_, rfl⟩
      rw [isum, if_pos a1, nI_1]
    · rw [if_neg a1]
      refine Or.inl ⟨(_, _), ?_, rfl⟩
      rw [isum, if_neg a1, nI_1]
  · rintro r q rfl
    dsimp only
    rw [if_pos (show (96 : Int32) ≤ nI 96 by decide)]
theorem ow_ash {σ τ : ojS} (hnet : Rnet (σ 2) (τ 1)) (n : Nat) : f_X8_litersAshore n σ = some (isum (fun c => if τ 1 c = 0 then 0 else σ (23 + n) c) 96) := by
  unfold f_X8_litersAshore f_X8_litersAshore_4
  refine ojFix_inv (bot := fun _ _ => none) (fun (rr : Int32 → Int32 → Option Int32) (q : Int32 × Int32) => rr q.1 q.2) _ (fun t q => q = (isum (fun c => if τ 1 c = 0 then 0 else σ (23 + n) c) t, nI t)) (fun z => z = some (isum (fun c => if τ 1 c = 0 then 0 else σ (23 + n) c) 96)) 96 ?_ ?_ 600 0 (0, 0) (by decide) (by decide) rfl
  · rintro r t q ht rfl
    dsimp only
    rw [if_neg (ge_96 ht)]
    rcases seaO hnet ht with ⟨a1, a2, -⟩ | ⟨a1, a2, -⟩
    · rw [a2]
      simp only [ojB1_s, if10, ifF, ojLet_s]
      refine Or.inl ⟨(_, _), ?_, rfl⟩
      rw [isum, if_pos a1, nI_1]
    · rw [a2]
      simp only [ojB1_s, if00, ifT, ojLet_s, ojChk_nI ht (by decide), nI_clamp (show t < 2 ^ 31 by omega)]
      refine Or.inl ⟨(_, _), ?_, rfl⟩
      rw [isum, if_neg a1, nI_1]
  · rintro r q rfl
    dsimp only
    rw [if_pos (show (96 : Int32) ≤ nI 96 by decide)]
theorem md_ash {σ τ : ojS} (hnet : Rnet (σ 2) (τ 1)) : f_X9_count_115 0 0 τ = some (isum (fun c => if τ 1 c = 0 then 0 else τ 2 c) 96) := by
  unfold f_X9_count_115
  refine ojFix_inv (bot := fun _ _ => none) (fun (rr : Int32 → Int32 → Option Int32) (q : Int32 × Int32) => rr q.1 q.2) _ (fun t q => q = (isum (fun c => if τ 1 c = 0 then 0 else τ 2 c) t, nI t)) (fun z => z = some (isum (fun c => if τ 1 c = 0 then 0 else τ 2 c) 96)) 96 ?_ ?_ 600 0 (0, 0) (by decide) (by decide) rfl
  · rintro r t q ht rfl
    dsimp only
    rw [if_neg (ge_96 ht)]
    simp only [ojChk_nI ht (by decide), nI_clamp (show t < 2 ^ 31 by omega), ojLet_s]
    rcases seaO hnet ht with ⟨a1, -, a2⟩ | ⟨a1, -, a2⟩
    · rw [if_pos a2]
      refine Or.inl ⟨(_, _), ?_, rfl⟩
      rw [isum, if_pos a1, nI_1]
    · rw [if_neg a2]
      refine Or.inl ⟨(_, _), ?_, rfl⟩
      rw [isum, if_neg a1, nI_1]
  · rintro r q rfl
    dsimp only
    rw [if_pos (show (96 : Int32) ≤ nI 96 by decide)]
theorem md_bms {τ : ojS} (h : ∀ k, k < 20 → τ 5 k = 0 ∨ τ 5 k = 1) : f_X9_count_173 0 0 τ = some (isum (τ 5) 20) := by
  unfold f_X9_count_173
  refine ojFix_inv (bot := fun _ _ => none) (fun (rr : Int32 → Int32 → Option Int32) (q : Int32 × Int32) => rr q.1 q.2) _ (fun t q => q = (isum (τ 5) t, nI t)) (fun z => z = some (isum (τ 5) 20)) 20 ?_ ?_ 600 0 (0, 0) (by decide) (by decide) rfl
  · rintro r t q ht rfl
    dsimp only
    rw [if_neg (ge_20 ht)]
    simp only [ojChk_nI ht (by decide), nI_clamp (show t < 2 ^ 31 by omega), ojLet_s]
    rcases h t ht with a1 | a1
    · rw [if_pos a1]
      refine Or.inl ⟨(_, _), ?_, rfl⟩
      rw [isum, a1, nI_1]
    · rw [if_neg (by rw [a1]; decide)]
      refine Or.inl ⟨(_, _), ?_, rfl⟩
      rw [isum, a1, nI_1]
  · rintro r q rfl
    dsimp only
    rw [if_pos (show (20 : Int32) ≤ nI 20 by decide)]
theorem ow_skd {K : Nat} {σ τ : ojS} (hK : K ≤ 4) (e : σ 9 1 = nI K) (hfl : Rfl K σ τ) : f_X8_litersSkimmed σ = some (isum (τ 14) 4) := by
  unfold f_X8_litersSkimmed f_X8_litersSkimmed_4
  rw [isum_ext hK (fun i h1 h2 => ((hfl i h2).2.2.2.2.2 h1).2)]
  refine ojFix_inv (bot := fun _ _ => none) (fun (rr : Int32 → Int32 → Option Int32) (q : Int32 × Int32) => rr q.1 q.2) _ (fun t q => q = (isum (τ 14) t, nI t)) (fun z => z = some (isum (τ 14) K)) K ?_ ?_ 600 0 (0, 0) (by omega) (by omega) rfl
  · rintro r t q ht rfl
    dsimp only
    rw [if_neg (show ¬ σ 9 1 ≤ nI t by rw [e]; exact nI_ge ht (by omega))]
    simp only [ojChk_nI (show t < 4 by omega) (by decide), nI_clamp (show t < 2 ^ 31 by omega), ojLet_s]
    refine Or.inl ⟨(_, _), ?_, rfl⟩
    obtain ⟨g1, g2, -⟩ := hfl t (by omega)
    rw [isum, nI_1, show σ (27 + 0) t = τ 13 t from g1, g2]
  · rintro r q rfl
    dsimp only
    rw [if_pos (show σ 9 1 ≤ nI K by rw [e]; exact Int32.le_refl _)]
theorem md_hrs {K : Nat} {τ : ojS} (hK : K ≤ 4) (e : τ 0 14 = nI K) (x : Int32) : f_X9_billAll_17 x 0 τ = some (x + isum (fun i => 50 * (τ 0 0 - τ 15 i)) K) := by
  unfold f_X9_billAll_17
  refine ojFix_inv (bot := fun _ _ => none) (fun (rr : Int32 → Int32 → Option Int32) (q : Int32 × Int32) => rr q.1 q.2) _ (fun t q => q = (x + isum (fun i => 50 * (τ 0 0 - τ 15 i)) t, nI t)) (fun z => z = some (x + isum (fun i => 50 * (τ 0 0 - τ 15 i)) K)) K ?_ ?_ 600 0 (x, 0) (by omega) (by omega) (by rw [isum, Int32.add_zero]; rfl)
  · rintro r t q ht rfl
    dsimp only
    rw [if_neg (show ¬ τ 0 14 ≤ nI t by rw [e]; exact nI_ge ht (by omega))]
    simp only [ojChk_nI (show t < 4 by omega) (by decide), nI_clamp (show t < 2 ^ 31 by omega), ojLet_s]
    refine Or.inl ⟨(_, _), ?_, rfl⟩
    rw [isum, nI_1, Int32.add_assoc]
  · rintro r q rfl
    dsimp only
    rw [if_pos (show τ 0 14 ≤ nI K by rw [e]; exact Int32.le_refl _)]
theorem nsum_le_mul {f : Nat → Nat} {B : Nat} : ∀ {n : Nat}, (∀ i, i < n → f i ≤ B) → nsum f n ≤ n * B
  | 0, _ => Nat.zero_le _
  | n + 1, h => by
    rw [nsum, Nat.succ_mul]
    exact Nat.add_le_add (nsum_le_mul (fun i hi => h i (by omega))) (h n (by omega))
theorem harm_both {N S K P : Nat} {σ τ : ojS} (hR : RR N S K P σ τ) : ∃ m, m ≤ 9000 ∧ f_X8_harmOf 0 σ = some (nI m) ∧ f_X9_harm τ = some (nI m) := by
  obtain ⟨hN, hS, hK, hP, hnet, hsky, hfs, hlq, hlo, haw, hfl, hskd, hhr, hpt, hbm, hsh⟩ := id hR
  obtain ⟨L, t, q1, q2, q3⟩ := hlq
  have hS1 := hS.1
  have hr : ∀ c, c < 96 → (τ 1 c).toNatClampNeg ≤ 9 ∧ σ 2 c = nI (τ 1 c).toNatClampNeg ∧ τ 1 c = nI (τ 1 c).toNatClampNeg := fun c hc => by
    obtain ⟨v, hv, e1, e2⟩ := hnet c hc
    rw [e1, e2, nI_clamp (by omega)]; exact ⟨hv, rfl, rfl⟩
  exact ⟨hmN L (fun c => (τ 1 c).toNatClampNeg), (harm_div (fun c hc => (hr c hc).1) (by omega)).2, ow_harm (n := 0) (fun c hc => ⟨(hr c hc).1, (hr c hc).2.1⟩) (fun c hc => (q1 c hc).1) (by omega), md_harm (fun c hc => ⟨(hr c hc).1, (hr c hc).2.2⟩) (fun c hc => (q1 c hc).2) (by omega)⟩
theorem bill_both {N S K P : Nat} {σ τ : ojS} (hR : RR N S K P σ τ) : ∃ B, B ≤ 2190000 ∧ f_X8_wholeBill σ = some (nI B) ∧ f_X9_billAll τ = some (nI B) := by
  obtain ⟨m, hm, m1, m2⟩ := harm_both hR
  obtain ⟨hN, hS, hK, hP, hnet, hsky, hfs, hlq, hlo, haw, hfl, hskd, hhr, hpt, hbm, hsh⟩ := id hR
  obtain ⟨L, t, q1, q2, q3⟩ := hlq
  have hS1 := hS.1
  have hN1 := hN.1
  have hK1 := hK.1
  have e1 : isum (τ 14) 4 = nI (nsum t 4) := by rw [isum_congr q2, isum_nI]
  obtain ⟨y1, y2⟩ := hhr
  have hc : ∀ i, i < K → (τ 15 i).toNatClampNeg ≤ N ∧ τ 15 i = nI (τ 15 i).toNatClampNeg := fun i hi => by
    obtain ⟨c, hc, e⟩ := y2 i hi
    rw [e, nI_clamp (by omega)]; exact ⟨hc, rfl⟩
  have hs1 : nsum (fun i => N - (τ 15 i).toNatClampNeg) K ≤ K * 500 := nsum_le_mul (fun i hi => by omega)
  have hs2 : K * 500 ≤ 4 * 500 := Nat.mul_le_mul_right _ hK1
  have hs3 : ∀ n, nsum (fun i => 50 * (N - (τ 15 i).toNatClampNeg)) n = 50 * nsum (fun i => N - (τ 15 i).toNatClampNeg) n := fun n => by
    induction n with
    | zero => rfl
    | succ n ih => rw [nsum, nsum, ih]; omega
  refine ⟨2 * nsum t 4 + 50 * nsum (fun i => N - (τ 15 i).toNatClampNeg) K + 10 * m, by omega, ?_, ?_⟩
  · unfold f_X8_wholeBill
    rw [ow_skd hK1 hK.2.1 hfl, m1, y1, e1]
    simp only [ojB1_s]
    rw [isum_congr (g := fun i => nI (N - (τ 15 i).toNatClampNeg)) (fun i hi => by
      have := hc i hi
      show nI N - τ 15 i = nI (N - (τ 15 i).toNatClampNeg)
      rw [← pk_sub this.1, ← this.2]), isum_nI]
    rw [show (2 : Int32) = nI 2 from rfl, show (50 : Int32) = nI 50 from rfl, show (10 : Int32) = nI 10 from rfl, pk_mul, pk_mul, pk_mul, nI_add, nI_add]
  · unfold f_X9_billAll
    rw [m2, hskd, e1]
    simp only [ojB1_s, ojLet_s]
    rw [md_hrs hK1 hK.2.2, hN.2.2]
    rw [isum_congr (g := fun i => nI (50 * (N - (τ 15 i).toNatClampNeg))) (fun i hi => by
      have := hc i hi
      show nI 50 * (nI N - τ 15 i) = nI (50 * (N - (τ 15 i).toNatClampNeg))
      rw [← pk_mul, ← pk_sub this.1, ← this.2]), isum_nI, hs3]
    rw [show (2 : Int32) = nI 2 from rfl, show (10 : Int32) = nI 10 from rfl, pk_mul, pk_mul, nI_add, nI_add]
    exact congrArg (fun z => some (nI z)) (by omega)
theorem st_count {σ τ : ojS} (h : RRR σ τ) (a : Int32) : ∃ r, f_X8_count a σ = some r ∧ f_X9_count a τ = some r := by
  obtain ⟨N, S, K, P, hR⟩ := id h
  obtain ⟨m, -, m1, m2⟩ := harm_both hR
  obtain ⟨B, -, b1, b2⟩ := bill_both hR
  obtain ⟨hN, hS, hK, hP, hnet, hsky, hfs, hlq, hlo, haw, hfl, hskd, hhr, hpt, hbm, hsh⟩ := id hR
  obtain ⟨L, t, q1, q2, q3⟩ := hlq
  unfold f_X8_count f_X9_count
  by_cases c0 : a = 0
  · rw [if_pos c0, if_pos c0]; exact ⟨_, rfl, by rw [hN.2.1, hN.2.2]⟩
  rw [if_neg c0, if_neg c0]
  by_cases c0 : a = 1
  · rw [if_pos c0, if_pos c0]; exact ⟨_, rfl, by rw [hS.2.1, hS.2.2]⟩
  rw [if_neg c0, if_neg c0]
  by_cases c0 : a = 2
  · rw [if_pos c0, if_pos c0, ow_afl hnet 0, md_afl]
    refine ⟨_, rfl, congrArg some (isum_congr (fun c hc => ?_))⟩
    show _ = if τ 1 c = 0 then σ 23 c else 0
    rw [(q1 c hc).1, (q1 c hc).2]
  rw [if_neg c0, if_neg c0]
  by_cases c0 : a = 3
  · rw [if_pos c0, if_pos c0]; exact ⟨_, rfl, congrArg some hlo.symm⟩
  rw [if_neg c0, if_neg c0]
  by_cases c0 : a = 4
  · rw [if_pos c0, if_pos c0, ow_ash hnet 0, md_ash hnet]
    refine ⟨_, rfl, congrArg some (isum_congr (fun c hc => ?_))⟩
    show _ = if τ 1 c = 0 then 0 else σ 23 c
    rw [(q1 c hc).1, (q1 c hc).2]
  rw [if_neg c0, if_neg c0]
  by_cases c0 : a = 5
  · rw [if_pos c0, if_pos c0]; exact ⟨_, rfl, congrArg some haw.symm⟩
  rw [if_neg c0, if_neg c0]
  by_cases c0 : a = 6
  · rw [if_pos c0, if_pos c0, ow_skd hK.1 hK.2.1 hfl, hskd]; exact ⟨_, rfl, rfl⟩
  rw [if_neg c0, if_neg c0]
  by_cases c0 : a = 7
  · rw [if_pos c0, if_pos c0, m1, m2]; exact ⟨_, rfl, rfl⟩
  rw [if_neg c0, if_neg c0]
  by_cases c0 : a = 8
  · rw [if_pos c0, if_pos c0, b1, b2]; exact ⟨_, rfl, rfl⟩
  rw [if_neg c0, if_neg c0]
  by_cases c0 : a = 9
  · rw [if_pos c0, if_pos c0, md_bms (Rbm_01 hbm), ← hbm.1]; exact ⟨_, rfl, rfl⟩
  rw [if_neg c0, if_neg c0]
  by_cases c0 : a = 10
  · rw [if_pos c0, if_pos c0]; exact ⟨_, rfl, by rw [hP.2.1, hP.2.2]⟩
  rw [if_neg c0, if_neg c0]
  exact ⟨_, rfl, rfl⟩
