theorem RR_fr2 {N S K P : Nat} {σ τ σ' τ' : ojS} (h : RR N S K P σ τ) (h1 : ∀ k, k ≠ 12 → (k < 20 ∨ k = 23 ∨ k = 27 ∨ 31 ≤ k) → σ' k = σ k) (h2 : ∀ k, 1 ≤ k → k ≤ 20 → k ≠ 2 → k ≠ 9 → k ≠ 13 → k ≠ 14 → τ' k = τ k) (e2 : ∀ c, c < 96 → τ' 2 c = τ 2 c) (e9 : ∀ i, i < 4 → τ' 9 i = τ 9 i ∧ τ' 13 i = τ 13 i ∧ τ' 14 i = τ 14 i) (h3 : ∀ j, j ≠ 30 → j ≠ 31 → τ' 0 j = τ 0 j) : RR N S K P σ' τ' := by
  have hR : RR N S K P σ' τ := RR_fr h h1 (fun _ _ _ => rfl) (fun _ _ _ => rfl)
  obtain ⟨hN, hS, hK, hP, hnet, hsky, hfs, hlq, hlo, haw, hfl, hskd, hhr, hpt, hbm, hsh⟩ := hR
  have g : ∀ k, 1 ≤ k → k ≤ 20 → k ≠ 2 → k ≠ 9 → k ≠ 13 → k ≠ 14 → τ' k = τ k := h2
  refine ⟨by rw [h3 0 (by omega) (by omega)]; exact hN, by rw [h3 9 (by omega) (by omega)]; exact hS, by rw [h3 14 (by omega) (by omega)]; exact hK, by rw [h3 23 (by omega) (by omega)]; exact hP, by rw [g 1 (by omega) (by omega) (by omega) (by omega) (by omega) (by omega)]; exact hnet, by rw [g 3 (by omega) (by omega) (by omega) (by omega) (by omega) (by omega), g 4 (by omega) (by omega) (by omega) (by omega) (by omega) (by omega)]; exact hsky, by rw [h3 10 (by omega) (by omega)]; exact hfs, ?_, by rw [h3 11 (by omega) (by omega)]; exact hlo, by rw [h3 12 (by omega) (by omega)]; exact haw, ?_, by rw [h3 13 (by omega) (by omega), hskd]; exact isum_congr (fun i hi => ((e9 i hi).2.2).symm), by rw [g 15 (by omega) (by omega) (by omega) (by omega) (by omega) (by omega)]; exact hhr, by rw [g 20 (by omega) (by omega) (by omega) (by omega) (by omega) (by omega)]; exact hpt, by rw [g 5 (by omega) (by omega) (by omega) (by omega) (by omega) (by omega), g 6 (by omega) (by omega) (by omega) (by omega) (by omega) (by omega), g 7 (by omega) (by omega) (by omega) (by omega) (by omega) (by omega), g 8 (by omega) (by omega) (by omega) (by omega) (by omega) (by omega)]; exact hbm, Rshs_fr hsh (fun _ _ _ => rfl) ⟨g 17 (by omega) (by omega) (by omega) (by omega) (by omega) (by omega), g 18 (by omega) (by omega) (by omega) (by omega) (by omega) (by omega), g 19 (by omega) (by omega) (by omega) (by omega) (by omega) (by omega), g 1 (by omega) (by omega) (by omega) (by omega) (by omega) (by omega), g 3 (by omega) (by omega) (by omega) (by omega) (by omega) (by omega)⟩⟩
  · obtain ⟨L, t, q1, q2, q3⟩ := hlq
    exact ⟨L, t, fun c hc => ⟨(q1 c hc).1, by rw [e2 c hc]; exact (q1 c hc).2⟩, fun i hi => by rw [(e9 i hi).2.2]; exact q2 i hi, q3⟩
  · intro i hi
    obtain ⟨p1, p2, p3⟩ := e9 i hi
    obtain ⟨g1, g2, g3, g4, g5, g6⟩ := hfl i hi
    rw [g 10 (by omega) (by omega) (by omega) (by omega) (by omega) (by omega), g 11 (by omega) (by omega) (by omega) (by omega) (by omega) (by omega), g 12 (by omega) (by omega) (by omega) (by omega) (by omega) (by omega), g 16 (by omega) (by omega) (by omega) (by omega) (by omega) (by omega), g 1 (by omega) (by omega) (by omega) (by omega) (by omega) (by omega)]
    refine ⟨by rw [p2]; exact g1, by rw [p2, p3]; exact g2, g3, g4, fun hiK => by rw [p1, p2]; exact g5 hiK, fun hiK => by rw [p2, p3]; exact g6 hiK⟩
def hmN (L r : Nat → Nat) : Nat := nsum (fun c => L c * r c) 96 / 1000
theorem nsum_mul9 {L r : Nat → Nat} : ∀ {n : Nat}, (∀ c, c < n → r c ≤ 9) → nsum (fun c => L c * r c) n ≤ 9 * nsum L n
  | 0, _ => Nat.le_refl _
  | n + 1, h => by
    rw [nsum, nsum]
    have h1 := nsum_mul9 (L := L) (r := r) (n := n) (fun c hc => h c (by omega))
    have h2 : L n * r n ≤ L n * 9 := Nat.mul_le_mul_left _ (h n (by omega))
    omega
theorem harm_div {L r : Nat → Nat} (hr : ∀ c, c < 96 → r c ≤ 9) (hT : nsum L 96 ≤ 1000000) : isum (fun c => nI (L c) * nI (r c)) 96 / 1000 = nI (hmN L r) ∧ hmN L r ≤ 9000 := by
  have h1 := nsum_mul9 (L := L) (r := r) (n := 96) hr
  have e1 : isum (fun c => nI (L c) * nI (r c)) 96 = nI (nsum (fun c => L c * r c) 96) := by
    rw [isum_congr (g := fun c => nI (L c * r c)) (fun c _ => pk_mul _ _), isum_nI]
  rw [e1]
  refine ⟨pk_div (d := 1000) (by omega) (by decide) (by decide), ?_⟩
  unfold hmN; omega
theorem ow_harm {σ : ojS} {n : Nat} {L r : Nat → Nat} (hr : ∀ c, c < 96 → r c ≤ 9 ∧ σ 2 c = nI (r c)) (hL : ∀ c, c < 96 → σ (23 + n) c = nI (L c)) (hT : nsum L 96 ≤ 1000000) : f_X8_harmOf n σ = some (nI (hmN L r)) := by
  unfold f_X8_harmOf f_X8_harmOf_4
  refine ojFix_inv (bot := fun _ _ => none) (fun (rr : Int32 → Int32 → Option Int32) (q : Int32 × Int32) => rr q.1 q.2) _ (fun t q => q = (isum (fun c => nI (L c) * nI (r c)) t, nI t)) (fun z => z = some (nI (hmN L r))) 96 ?_ ?_ 600 0 (0, 0) (by decide) (by decide) rfl
  · rintro rr t q ht rfl
    dsimp only
    simp only [if_neg (ge_96 ht), ojChk_nI ht (by decide), nI_clamp (show t < 2 ^ 31 by omega), ojLet_s, hL t ht, (hr t ht).2]
    exact Or.inl ⟨(isum (fun c => nI (L c) * nI (r c)) (t + 1), nI (t + 1)), rfl, by dsimp only; rw [isum, nI_1]⟩
  · rintro rr q rfl
    dsimp only
    rw [if_pos (show (96 : Int32) ≤ nI 96 by decide), (harm_div (fun c hc => (hr c hc).1) hT).1]
theorem md_harm {τ : ojS} {L r : Nat → Nat} (hr : ∀ c, c < 96 → r c ≤ 9 ∧ τ 1 c = nI (r c)) (hL : ∀ c, c < 96 → τ 2 c = nI (L c)) (hT : nsum L 96 ≤ 1000000) : f_X9_harm τ = some (nI (hmN L r)) := by
  unfold f_X9_harm f_X9_harm_4
  refine ojFix_inv (bot := fun _ _ => none) (fun (rr : Int32 → Int32 → Option Int32) (q : Int32 × Int32) => rr q.1 q.2) _ (fun t q => q = (isum (fun c => nI (L c) * nI (r c)) t, nI t)) (fun z => z = some (nI (hmN L r))) 96 ?_ ?_ 600 0 (0, 0) (by decide) (by decide) rfl
  · rintro rr t q ht rfl
    dsimp only
    simp only [if_neg (ge_96 ht), ojChk_nI ht (by decide), nI_clamp (show t < 2 ^ 31 by omega), ojLet_s, hL t ht, (hr t ht).2]
    exact Or.inl ⟨(isum (fun c => nI (L c) * nI (r c)) (t + 1), nI (t + 1)), rfl, by dsimp only; rw [isum, nI_1]⟩
  · rintro rr q rfl
    dsimp only
    rw [if_pos (show (96 : Int32) ≤ nI 96 by decide), (harm_div (fun c hc => (hr c hc).1) hT).1]
theorem ow_become {σ : ojS} {n0 n1 : Nat} (h0 : n0 < 4) (h1 : n1 < 4) : ∃ σ', f_X7_become n0 n1 σ = some σ' ∧ (∀ k, k ≠ 23 + n0 → k ≠ 27 + n0 → k ≠ 19 + n0 → σ' k = σ k) ∧ (∀ c, c < 96 → σ' (23 + n0) c = σ (23 + n1) c) ∧ ∀ i, i < 4 → σ' (27 + n0) i = σ (27 + n1) i := by
  unfold f_X7_become
  simp only [ojLet_s]
  refine ⟨_, rfl, fun k q1 q2 q3 => by rw [ojU_ne q3, ojU_ne q3, ojW_ne q2, ojW_ne q1], fun c hc => ?_, fun i hi => ?_⟩
  · rw [ojU_ne (by omega), ojU_ne (by omega), ojW_ne (by omega), ojW_eq]
    exact sb_cpy0 hc
  · rw [ojU_ne (by omega), ojU_ne (by omega), ojW_eq]
    rw [show va_cpy (ojW σ (23 + n0) (va_cpy (σ (23 + n1)) (σ (23 + n0)) (0 : Int32).toNatClampNeg (0 : Int32).toNatClampNeg (96 : Int32).toNatClampNeg) (27 + n1)) (ojW σ (23 + n0) (va_cpy (σ (23 + n1)) (σ (23 + n0)) (0 : Int32).toNatClampNeg (0 : Int32).toNatClampNeg (96 : Int32).toNatClampNeg) (27 + n0)) (0 : Int32).toNatClampNeg (0 : Int32).toNatClampNeg (4 : Int32).toNatClampNeg i = ojW σ (23 + n0) (va_cpy (σ (23 + n1)) (σ (23 + n0)) (0 : Int32).toNatClampNeg (0 : Int32).toNatClampNeg (96 : Int32).toNatClampNeg) (27 + n1) i from sb_cpy0 hi]
    rw [ojW_ne (by omega)]
noncomputable def itH (τ : ojS) (wd N : Nat) (at_ rt rm : Nat → Nat) (K : Nat) (fs : Int32) (L ld : Nat → Nat) : Nat → (Nat → Nat) × (Nat → Nat)
  | 0 => (L, ld)
  | t + 1 => skN at_ rt rm K 0 (hrL τ wd (N + t) (page (nI (N + t) - fs)) (itH τ wd N at_ rt rm K fs L ld t).1) (itH τ wd N at_ rt rm K fs L ld t).2
theorem itH_sum {τ : ojS} {wd N : Nat} {at_ rt rm : Nat → Nat} {K : Nat} {fs : Int32} {L ld : Nat → Nat} : ∀ t, nsum (itH τ wd N at_ rt rm K fs L ld t).1 96 ≤ nsum L 96
  | 0 => Nat.le_refl _
  | t + 1 => Nat.le_trans (nsum_le (fun k _ => skN_le _ _ _ _ k)) (Nat.le_trans hrL_sum (itH_sum t))
theorem itH_rm {τ : ojS} {wd N : Nat} {at_ rt rm : Nat → Nat} {K : Nat} {fs : Int32} {L ld : Nat → Nat} {j : Nat} (h : ld j ≤ rm j) : ∀ t, (itH τ wd N at_ rt rm K fs L ld t).2 j ≤ rm j
  | 0 => h
  | t + 1 => skN_rm _ _ _ _ j (itH_rm h t)
theorem skN_zero {at_ rt rm : Nat → Nat} {m i : Nat} {ld : Nat → Nat} : (skN at_ rt rm m i (fun _ => 0) ld).1 = fun _ => 0 := by
  funext x
  exact Nat.le_zero.mp (skN_le m i (fun _ => 0) ld x)
theorem itH_zero {τ : ojS} {wd N : Nat} {at_ rt rm : Nat → Nat} {K : Nat} {fs : Int32} {ld : Nat → Nat} : ∀ t, (itH τ wd N at_ rt rm K fs (fun _ => 0) ld t).1 = fun _ => 0
  | 0 => rfl
  | t + 1 => by rw [itH, itH_zero t, hrL_0, skN_zero]
theorem itH_fs {τ : ojS} {wd N M S : Nat} {at_ rt rm : Nat → Nat} {K : Nat} {a b : Int32} {L ld : Nat → Nat} (hfs : Rfs M S a b) (h0 : S = 0 → L = fun _ => 0) : ∀ t, itH τ wd N at_ rt rm K a L ld t = itH τ wd N at_ rt rm K b L ld t
  | 0 => rfl
  | t + 1 => by
    rw [itH, itH, itH_fs hfs h0 t]
    rw [(age_eq (τ := τ) (wd := wd) (h := N + t) (L := (itH τ wd N at_ rt rm K b L ld t).1) hfs (fun q => by rw [h0 q]; exact itH_zero t)).1]
theorem EV_fr {K : Nat} {σ τ σ' τ' : ojS} (h : EV K σ τ) (e2 : σ' 2 = σ 2) (e8 : σ' 8 = σ 8) (e3 : σ' 3 = σ 3) (e4 : σ' 4 = σ 4) (e5 : σ' 5 = σ 5) (e6 : σ' 6 = σ 6) (e9 : σ' 9 = σ 9) (t1 : τ' 1 = τ 1) (t3 : τ' 3 = τ 3) (t4 : τ' 4 = τ 4) (t5 : τ' 5 = τ 5) (t6 : τ' 6 = τ 6) (t7 : τ' 7 = τ 7) (t8 : τ' 8 = τ 8) (t0 : τ' 0 14 = τ 0 14) : EV K σ' τ' := by
  unfold EV
  rw [e2, e8, e3, e4, e5, e6, e9, t1, t3, t4, t5, t6, t7, t8, t0]
  exact h
theorem ow_ahead {K N wd n : Nat} {σ τ : ojS} (hE : EV K σ τ) (hwd : wd ≤ 2) (hN : N ≤ 500) (hn : n ≤ 48) (ht : σ 0 10 = nI N) {at_ rt rm L ld : Nat → Nat} (hF : FO K at_ rt rm σ) (hL : ∀ c, c < 96 → σ 23 c = nI (L c)) (hD : ∀ i, i < 4 → σ 27 i = nI (ld i)) (hT : nsum L 96 ≤ 1000000) (hl : ∀ i, i < K → ld i ≤ rm i) :
    ∃ σ', f_X8_harmAhead (nI wd) (nI n) σ = some (nI (hmN (itH τ wd N at_ rt rm K (σ 0 12) L ld n).1 (fun c => (τ 1 c).toNatClampNeg)), σ') ∧ ∀ k, k ≠ 24 → k ≠ 20 → k ≠ 28 → σ' k = σ k := by
  unfold f_X8_harmAhead
  rw [show ojChk (0 : Int32) 3 = fun (x : Option (Int32 × ojS)) => x from funext (fun x => ojChk_nI (k := 0) (by decide) (by decide))]
  obtain ⟨σ1, a1, a2, a3, a4⟩ := ow_become (σ := σ) (n0 := 1) (n1 := 0) (by decide) (by decide)
  rw [show f_X7_become (1 + (0 : Int32).toNatClampNeg) 0 σ = some σ1 from a1]
  simp only [ojBv_s]
  show ∃ σ', f_X8_harmAhead_18 (nI wd) (nI n) 1 0 σ1 = _ ∧ _
  unfold f_X8_harmAhead_18
  have hr2 : ∀ c, c < 96 → (τ 1 c).toNatClampNeg ≤ 9 ∧ σ 2 c = nI ((τ 1 c).toNatClampNeg) := fun c hc => by
    obtain ⟨v, hv, e1, e2⟩ := hE.1 c hc
    rw [e1, e2, nI_clamp (by omega)]; exact ⟨hv, rfl⟩
  refine ojFix_inv (bot := fun _ _ => none) (fun (r : Int32 → ojS → Option (Int32 × ojS)) (q : Int32 × ojS) => r q.1 q.2) _ (fun t q => q.1 = nI t ∧ (∀ k, k ≠ 24 → k ≠ 20 → k ≠ 28 → q.2 k = σ k) ∧ (∀ c, c < 96 → q.2 24 c = nI ((itH τ wd N at_ rt rm K (σ 0 12) L ld t).1 c)) ∧ ∀ i, i < 4 → q.2 28 i = nI ((itH τ wd N at_ rt rm K (σ 0 12) L ld t).2 i)) (fun z => ∃ σ', z = some (nI (hmN (itH τ wd N at_ rt rm K (σ 0 12) L ld n).1 (fun c => (τ 1 c).toNatClampNeg)), σ') ∧ ∀ k, k ≠ 24 → k ≠ 20 → k ≠ 28 → σ' k = σ k) n ?_ ?_ 600 0 (0, σ1) (by omega) (by omega) ⟨rfl, fun k q1 q2 q3 => a2 k q1 q3 q2, fun c hc => (a3 c hc).trans (hL c hc), fun i hi => (a4 i hi).trans (hD i hi)⟩
  · rintro r t ⟨v, s⟩ htn ⟨h1, h2, h3, h4⟩
    dsimp only at h1 h2 h3 h4 ⊢
    subst h1
    rw [if_neg (nI_ge htn (by omega)), h2 0 (by decide) (by decide) (by decide), ht, nI_add]
    have hE' : EV K s τ := EV_fr hE (h2 2 (by decide) (by decide) (by decide)) (h2 8 (by decide) (by decide) (by decide)) (h2 3 (by decide) (by decide) (by decide)) (h2 4 (by decide) (by decide) (by decide)) (h2 5 (by decide) (by decide) (by decide)) (h2 6 (by decide) (by decide) (by decide)) (h2 9 (by decide) (by decide) (by decide)) rfl rfl rfl rfl rfl rfl rfl rfl
    have hK4 := hE.2.2.2.1
    obtain ⟨σ', b1, b2, b3, b4, b5, b6⟩ := ow_hour hE' (n := 1) (wd := wd) (h := N + t) (by decide) hwd (by omega) (at_ := at_) (rt := rt) (rm := rm) (fun i hi => by rw [h2 (15 + i) (by omega) (by omega) (by omega)]; exact hF i hi) h3 h4 (Nat.le_trans (itH_sum t) hT) (fun i hi => itH_rm (hl i hi) t)
    rw [b1]
    simp only [ojBv_s, ojLet_s]
    rw [h2 0 (by decide) (by decide) (by decide)] at b5 b6
    refine Or.inl ⟨(nI t + 1, σ'), ⟨nI_1 t, fun k q1 q2 q3 => by dsimp only; rw [b2 k q1 q2 q3, h2 k q1 q2 q3], fun c hc => b5 c hc, fun i hi => b6 i hi⟩, rfl⟩
  · rintro r ⟨v, s⟩ ⟨h1, h2, h3, h4⟩
    dsimp only at h1 h2 h3 h4 ⊢
    subst h1
    rw [if_pos (Int32.le_refl _), ow_harm (n := 1) (r := fun c => (τ 1 c).toNatClampNeg) (fun c hc => by rw [h2 2 (by decide) (by decide) (by decide)]; exact hr2 c hc) h3 (Nat.le_trans (itH_sum n) hT)]
    simp only [ojB1_s]
    exact ⟨s, rfl, h2⟩
theorem md_fore {K N wd n : Nat} {σ τ : ojS} (hE : EV K σ τ) (hwd : wd ≤ 2) (hN : N ≤ 500) (hn : n ≤ 48) (ht : τ 0 0 = nI N) {at_ rt rm L ld : Nat → Nat} (hF : FM K at_ rt rm τ) (hL : ∀ c, c < 96 → τ 2 c = nI (L c)) (hD : ∀ i, i < 4 → τ 13 i = nI (ld i)) (hT : nsum L 96 ≤ 1000000) (hl : ∀ i, i < K → ld i ≤ rm i) :
    ∃ τ', f_X9_foretold (nI wd) (nI n) τ = some (nI (hmN (itH τ wd N at_ rt rm K (τ 0 10) L ld n).1 (fun c => (τ 1 c).toNatClampNeg)), τ') ∧ (∀ k, k ≠ 0 → k ≠ 2 → k ≠ 9 → k ≠ 13 → k ≠ 14 → k ≠ 21 → k ≠ 22 → τ' k = τ k) ∧ (∀ c, c < 96 → τ' 2 c = τ 2 c) ∧ (∀ i, i < 4 → τ' 9 i = τ 9 i ∧ τ' 13 i = τ 13 i ∧ τ' 14 i = τ 14 i) ∧ ∀ j, τ' 0 j = τ 0 j := by
  unfold f_X9_foretold
  have e1 : f_X9_in (nI wd) 0 2 = some 1 := by
    unfold f_X9_in
    rw [if_neg (nI_pos (by omega)), if_neg (show ¬ (2 : Int32) < nI wd from nI_nlt (a := 2) hwd (by decide))]
  have e2 : f_X9_in (nI n) 0 48 = some 1 := by
    unfold f_X9_in
    rw [if_neg (nI_pos (by omega)), if_neg (show ¬ (48 : Int32) < nI n from nI_nlt (a := 48) hn (by decide))]
  rw [e1, e2]
  simp only [ojB1_s, if10, ifF]
  obtain ⟨τ1, a1, a2, a3, a4⟩ := md_keeps (τ := τ) (d := 0) (by decide)
  rw [show f_X9_keeps 0 τ = some τ1 from a1]
  simp only [ojBv_s]
  unfold f_X9_foretold_28
  have hr2 : ∀ c, c < 96 → (τ 1 c).toNatClampNeg ≤ 9 ∧ τ 1 c = nI ((τ 1 c).toNatClampNeg) := fun c hc => by
    obtain ⟨v, hv, e1, e2⟩ := hE.1 c hc
    rw [e2, nI_clamp (by omega)]; exact ⟨hv, rfl⟩
  have hK4 := hE.2.2.2.1
  refine ojFix_inv (bot := fun _ _ => none) (fun (r : Int32 → ojS → Option (Int32 × ojS)) (q : Int32 × ojS) => r q.1 q.2) _ (fun t q => q.1 = nI t ∧ (∀ k, k ≠ 0 → k ≠ 2 → k ≠ 13 → k ≠ 14 → k ≠ 21 → k ≠ 22 → q.2 k = τ k) ∧ (∀ j, j ≠ 0 → j ≠ 11 → j ≠ 12 → j ≠ 13 → q.2 0 j = τ 0 j) ∧ q.2 0 0 = nI (N + t) ∧ q.2 22 = τ1 22 ∧ (∀ c, c < 96 → q.2 2 c = nI ((itH τ wd N at_ rt rm K (τ 0 10) L ld t).1 c)) ∧ ∀ i, i < 4 → q.2 13 i = nI ((itH τ wd N at_ rt rm K (τ 0 10) L ld t).2 i)) (fun z => ∃ τ', z = some (nI (hmN (itH τ wd N at_ rt rm K (τ 0 10) L ld n).1 (fun c => (τ 1 c).toNatClampNeg)), τ') ∧ (∀ k, k ≠ 0 → k ≠ 2 → k ≠ 9 → k ≠ 13 → k ≠ 14 → k ≠ 21 → k ≠ 22 → τ' k = τ k) ∧ (∀ c, c < 96 → τ' 2 c = τ 2 c) ∧ (∀ i, i < 4 → τ' 9 i = τ 9 i ∧ τ' 13 i = τ 13 i ∧ τ' 14 i = τ 14 i) ∧ ∀ j, τ' 0 j = τ 0 j) n ?_ ?_ 600 0 (0, τ1) (by omega) (by omega) ⟨rfl, fun k _ _ _ _ _ q => a2 k q, fun j _ _ _ _ => by dsimp only; rw [a2 0 (by decide)], by dsimp only; rw [a2 0 (by decide), ht]; rfl, rfl, fun c hc => by dsimp only; rw [a2 2 (by decide)]; exact hL c hc, fun i hi => by dsimp only; rw [a2 13 (by decide)]; exact hD i hi⟩
  · rintro r t ⟨v, s⟩ htn ⟨h1, h2, h3, h4, h5, h6, h7⟩
    dsimp only at h1 h2 h3 h4 h5 h6 h7 ⊢
    subst h1
    rw [if_neg (nI_ge htn (by omega))]
    have t1 := h2 1 (by decide) (by decide) (by decide) (by decide) (by decide) (by decide)
    have t3 := h2 3 (by decide) (by decide) (by decide) (by decide) (by decide) (by decide)
    have t4 := h2 4 (by decide) (by decide) (by decide) (by decide) (by decide) (by decide)
    have t5 := h2 5 (by decide) (by decide) (by decide) (by decide) (by decide) (by decide)
    have t6 := h2 6 (by decide) (by decide) (by decide) (by decide) (by decide) (by decide)
    have t7 := h2 7 (by decide) (by decide) (by decide) (by decide) (by decide) (by decide)
    have t8 := h2 8 (by decide) (by decide) (by decide) (by decide) (by decide) (by decide)
    have hE' : EV K σ s := EV_fr hE rfl rfl rfl rfl rfl rfl rfl t1 t3 t4 t5 t6 t7 t8 (h3 14 (by decide) (by decide) (by decide) (by decide))
    obtain ⟨τ', b1, b2, b3, b4, b5, b6, b7, b8, b9, b10⟩ := md_hour hE' (wd := wd) (h := N + t) hwd (by omega) h4 (at_ := at_) (rt := rt) (rm := rm) (fun i hi => by rw [h2 9 (by decide) (by decide) (by decide) (by decide) (by decide) (by decide), h2 10 (by decide) (by decide) (by decide) (by decide) (by decide) (by decide), h2 11 (by decide) (by decide) (by decide) (by decide) (by decide) (by decide)]; exact hF i hi) h6 h7 (Nat.le_trans (itH_sum t) hT) (fun i hi => itH_rm (hl i hi) t)
    rw [b1]
    simp only [ojBv_s, ojLet_s]
    rw [h3 10 (by decide) (by decide) (by decide) (by decide), hrL_congr t1 t3 t4 t5 t6 t7 t8] at b8 b9
    refine Or.inl ⟨(nI t + 1, τ'), ⟨nI_1 t, fun k q1 q2 q3 q4 q5 q6 => by dsimp only; rw [b2 k q1 q2 q3 q4 q5, h2 k q1 q2 q3 q4 q5 q6], fun j q1 q2 q3 q4 => by dsimp only; rw [b3 j q1 q2 q3 q4, h3 j q1 q2 q3 q4], b4, by dsimp only; rw [b2 22 (by decide) (by decide) (by decide) (by decide) (by decide), h5], b8, b9⟩, rfl⟩
  · rintro r ⟨v, s⟩ ⟨h1, h2, h3, h4, h5, h6, h7⟩
    dsimp only at h1 h2 h3 h4 h5 h6 h7 ⊢
    subst h1
    rw [if_pos (Int32.le_refl _), md_harm (r := fun c => (τ 1 c).toNatClampNeg) (fun c hc => by rw [h2 1 (by decide) (by decide) (by decide) (by decide) (by decide) (by decide)]; exact hr2 c hc) h6 (Nat.le_trans (itH_sum n) hT)]
    simp only [ojB1_s]
    obtain ⟨τ', c1, c2, c3, c4, c5, c6, c7, c8, c9⟩ := md_back (τ0 := τ) (τ := s) (d := 0) (by decide) (Kp_fr a3 (fun j _ _ => by rw [h5]))
    rw [show f_X9_back 0 s = some τ' from c1]
    simp only [ojBv_s]
    refine ⟨τ', rfl, fun k q1 q2 q3 q4 q5 q6 q7 => by rw [c2 k q1 q2 q3 q4 q5, h2 k q1 q2 q4 q5 q6 q7], c4, c5, fun j => ?_⟩
    by_cases j0 : j = 0
    · rw [j0]; exact c6
    · by_cases j1 : j = 11
      · rw [j1]; exact c7
      · by_cases j2 : j = 12
        · rw [j2]; exact c8
        · by_cases j3 : j = 13
          · rw [j3]; exact c9
          · rw [c3 j j0 j1 j2 j3, h3 j j0 j1 j2 j3]
