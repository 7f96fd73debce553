def EV (K : Nat) (σ τ : ojS) : Prop := Rnet (σ 2) (τ 1) ∧ Rsky (σ 8) (τ 3) (τ 4) ∧ Rbm (σ 3 3) (σ 4) (σ 5) (σ 6) (τ 5) (τ 6) (τ 7) (τ 8) ∧ K ≤ 4 ∧ σ 9 1 = nI K ∧ τ 0 14 = nI K
def FO (K : Nat) (at_ rt rm : Nat → Nat) (σ : ojS) : Prop := ∀ i, i < K → σ (15 + i) 0 = nI (at_ i) ∧ σ (15 + i) 1 = nI (rt i) ∧ σ (15 + i) 2 = nI (rm i) ∧ at_ i < 96 ∧ rt i ≤ 5000 ∧ rm i ≤ 100000
def FM (K : Nat) (at_ rt rm : Nat → Nat) (τ : ojS) : Prop := ∀ i, i < K → τ 9 i = nI (at_ i) ∧ τ 10 i = nI (rt i) ∧ τ 11 i = nI (rm i) ∧ at_ i < 96 ∧ rt i ≤ 5000 ∧ rm i ≤ 100000
noncomputable def dr0 (τ : ojS) (wd h : Nat) (L : Nat → Nat) : Nat → Nat := fun x => if wyN τ wd h = 0 then L x else drf (τ 1) (hfT τ (wyN τ wd h) (fcN τ wd h)) (wyN τ wd h) L x
noncomputable def hrL (τ : ojS) (wd h p : Nat) (L : Nat → Nat) : Nat → Nat := lsf (τ 1) p (dr0 τ wd h L)
theorem dr0_sum {τ : ojS} {wd h : Nat} {L : Nat → Nat} : nsum (dr0 τ wd h L) 96 ≤ nsum L 96 := by
  unfold dr0
  by_cases h0 : wyN τ wd h = 0
  · rw [nsum_congr (g := L) (fun k _ => if_pos h0)]; exact Nat.le_refl _
  · rw [nsum_congr (g := drf (τ 1) (hfT τ (wyN τ wd h) (fcN τ wd h)) (wyN τ wd h) L) (fun k _ => if_neg h0)]; exact drf_sum
theorem hrL_sum {τ : ojS} {wd h p : Nat} {L : Nat → Nat} : nsum (hrL τ wd h p L) 96 ≤ nsum L 96 := Nat.le_trans (nsum_le (fun k _ => lsf_le k)) dr0_sum
theorem hrL_congr {τ τ' : ojS} {wd h p : Nat} {L : Nat → Nat} (e1 : τ' 1 = τ 1) (e3 : τ' 3 = τ 3) (e4 : τ' 4 = τ 4) (e5 : τ' 5 = τ 5) (e6 : τ' 6 = τ 6) (e7 : τ' 7 = τ 7) (e8 : τ' 8 = τ 8) : hrL τ' wd h p L = hrL τ wd h p L := by
  have ew : wyN τ' wd h = wyN τ wd h := by unfold wyN; rw [e3]
  have ef : fcN τ' wd h = fcN τ wd h := by unfold fcN; rw [e4]
  have eh : ∀ w f, hfT τ' w f = hfT τ w f := fun w f => by
    funext c
    unfold hfT
    rw [e5, e6, e7, e8]
  unfold hrL dr0
  rw [e1, ew, ef, eh]
theorem ow_dl {K : Nat} {σ τ : ojS} (hE : EV K σ τ) {n wd h : Nat} (hwd : wd ≤ 2) (hh : h ≤ 1000) {L : Nat → Nat} (hL : ∀ c, c < 96 → σ (23 + n) c = nI (L c)) (hT : nsum L 96 ≤ 1000000) :
    ∃ σ', f_X8_driftAndLose n (nI wd) (nI h) σ = some σ' ∧ (∀ k, k ≠ 23 + n → k ≠ 19 + n → σ' k = σ k) ∧ σ' (19 + n) 2 = σ (19 + n) 2 + isum (fun c => nI (lsa (τ 1) (page (nI h - σ 0 12)) (dr0 τ wd h L) c)) 96 ∧ σ' (19 + n) 3 = σ (19 + n) 3 + isum (fun c => nI (if wyN τ wd h = 0 then 0 else awf (τ 1) (wyN τ wd h) L c)) 96 ∧ ∀ x, x < 96 → σ' (23 + n) x = nI (hrL τ wd h (page (nI h - σ 0 12)) L x) := by
  obtain ⟨hnet, hsky, hbm, hK4, hK1, hK2⟩ := hE
  obtain ⟨w4, f9, ew, ef, -⟩ := sky_eq hsky hwd hh
  have hr : ∀ c, c < 96 → σ 2 c = τ 1 c := fun c hc => by obtain ⟨v, -, e1, e2⟩ := hnet c hc; rw [e1, e2]
  unfold f_X8_driftAndLose
  rw [ew, ef]
  simp only [ojB1_s]
  by_cases h0 : wyN τ wd h = 0
  · rw [if_pos (by rw [h0]; rfl), lose_page]
    obtain ⟨σ', g1, g2, g3, g4, g5⟩ := ow_lose (n := n) (p := page (nI h - σ 0 12)) (rk := τ 1) (page_le _) hr hL (fun c hc => nsum_bd hT hc)
    rw [g1]
    have ed : dr0 τ wd h L = L := by funext x; unfold dr0; rw [if_pos h0]
    refine ⟨σ', rfl, g2, by rw [ed]; exact g4, ?_, fun x hx => by rw [g5 x hx]; unfold hrL; rw [ed]⟩
    rw [g3 3 (by omega), isum_congr (g := fun _ => nI 0) (fun k _ => by rw [if_pos h0]), isum_nI (f := fun _ => 0), nsum_zero (fun _ _ => rfl), nI_add0]
  · rw [if_neg (nI_ne0 (by omega) (by omega))]
    obtain ⟨σ1, a1, a2, a3, a4, a5⟩ := ow_drift (σ := σ) (n := n) (w := wyN τ wd h) (f := fcN τ wd h) (rk := τ 1) (hf := hfT τ (wyN τ wd h) (fcN τ wd h)) (L := L) hr (by omega) w4 hL (fun c hc => nsum_bd hT hc) (fun s c es hc hin => hold_eq hbm hc (by omega) w4 hin f9 es)
    rw [a1]
    simp only [ojBv_s]
    rw [lose_page, a2 0 (by omega) (by omega)]
    have ed : dr0 τ wd h L = drf (τ 1) (hfT τ (wyN τ wd h) (fcN τ wd h)) (wyN τ wd h) L := by funext x; unfold dr0; rw [if_neg h0]
    obtain ⟨σ', g1, g2, g3, g4, g5⟩ := ow_lose (σ := σ1) (n := n) (p := page (nI h - σ 0 12)) (rk := τ 1) (L := dr0 τ wd h L) (page_le _) (fun c hc => by rw [a2 2 (by omega) (by omega)]; exact hr c hc) (fun c hc => by rw [ed]; exact a5 c hc) (fun c hc => nsum_bd (Nat.le_trans dr0_sum hT) hc)
    rw [g1]
    refine ⟨σ', rfl, fun k q1 q2 => by rw [g2 k q1 q2, a2 k q1 q2], by rw [g4, a3 2 (by omega)], ?_, g5⟩
    rw [g3 3 (by omega), a4]
    exact congrArg (fun z => σ (19 + n) 3 + z) (isum_congr (fun k _ => by rw [if_neg h0]))
theorem ow_hour {K : Nat} {σ τ : ojS} (hE : EV K σ τ) {n wd h : Nat} (hn : n < 4) (hwd : wd ≤ 2) (hh : h ≤ 1000) {at_ rt rm : Nat → Nat} (hF : FO K at_ rt rm σ) {L ld : Nat → Nat} (hL : ∀ c, c < 96 → σ (23 + n) c = nI (L c)) (hD : ∀ i, i < 4 → σ (27 + n) i = nI (ld i)) (hT : nsum L 96 ≤ 1000000) (hl : ∀ i, i < K → ld i ≤ rm i) :
    ∃ σ', f_X8_passHour n (nI wd) (nI h) σ = some σ' ∧ (∀ k, k ≠ 23 + n → k ≠ 19 + n → k ≠ 27 + n → σ' k = σ k) ∧ σ' (19 + n) 2 = σ (19 + n) 2 + isum (fun c => nI (lsa (τ 1) (page (nI h - σ 0 12)) (dr0 τ wd h L) c)) 96 ∧ σ' (19 + n) 3 = σ (19 + n) 3 + isum (fun c => nI (if wyN τ wd h = 0 then 0 else awf (τ 1) (wyN τ wd h) L c)) 96 ∧ (∀ x, x < 96 → σ' (23 + n) x = nI ((skN at_ rt rm K 0 (hrL τ wd h (page (nI h - σ 0 12)) L) ld).1 x)) ∧ ∀ i, i < 4 → σ' (27 + n) i = nI ((skN at_ rt rm K 0 (hrL τ wd h (page (nI h - σ 0 12)) L) ld).2 i) := by
  obtain ⟨σ1, a1, a2, a3, a4, a5⟩ := ow_dl hE (n := n) hwd hh hL hT
  obtain ⟨hnet, hsky, hbm, hK4, hK1, hK2⟩ := hE
  unfold f_X8_passHour
  rw [a1]
  simp only [ojBv_s]
  rw [a2 9 (by omega) (by omega), hK1]
  obtain ⟨σ', g1, g2, g3, g4⟩ := ow_skim (σ := σ1) (n := n) (at_ := at_) (rt := rt) (rm := rm) (i0 := 0) (m := K) (L := hrL τ wd h (page (nI h - σ 0 12)) L) (ld := ld) (by omega) (fun i _ hi => by rw [a2 (15 + i) (by omega) (by omega)]; exact hF i (by omega)) a5 (fun i hi => by rw [a2 (27 + n) (by omega) (by omega)]; exact hD i hi) (fun c hc => nsum_bd (Nat.le_trans hrL_sum hT) hc) (fun i _ hi => hl i (by omega)) hn
  rw [Nat.zero_add] at g1
  rw [show f_X1_skim n 0 (nI K) σ1 = some σ' from g1]
  refine ⟨σ', rfl, fun k q1 q2 q3 => by rw [g2 k q1 q3, a2 k q1 q2], by rw [g2 (19 + n) (by omega) (by omega)]; exact a3, by rw [g2 (19 + n) (by omega) (by omega)]; exact a4, g3, g4⟩
theorem md_hour {K : Nat} {σ τ : ojS} (hE : EV K σ τ) {wd h : Nat} (hwd : wd ≤ 2) (hh : h ≤ 1000) (ht : τ 0 0 = nI h) {at_ rt rm : Nat → Nat} (hF : FM K at_ rt rm τ) {L ld : Nat → Nat} (hL : ∀ c, c < 96 → τ 2 c = nI (L c)) (hD : ∀ i, i < 4 → τ 13 i = nI (ld i)) (hT : nsum L 96 ≤ 1000000) (hl : ∀ i, i < K → ld i ≤ rm i) :
    ∃ τ', f_X9_hour (nI wd) τ = some τ' ∧ (∀ k, k ≠ 0 → k ≠ 2 → k ≠ 13 → k ≠ 14 → k ≠ 21 → τ' k = τ k) ∧ (∀ j, j ≠ 0 → j ≠ 11 → j ≠ 12 → j ≠ 13 → τ' 0 j = τ 0 j) ∧ τ' 0 0 = nI (h + 1) ∧ τ' 0 11 = τ 0 11 + isum (fun c => nI (lsa (τ 1) (page (nI h - τ 0 10)) (dr0 τ wd h L) c)) 96 ∧ τ' 0 12 = τ 0 12 + isum (fun c => nI (if wyN τ wd h = 0 then 0 else awf (τ 1) (wyN τ wd h) L c)) 96 ∧ τ' 0 13 = τ 0 13 + nI (nsum (fun j => (skN at_ rt rm K 0 (hrL τ wd h (page (nI h - τ 0 10)) L) ld).2 j - ld j) 4) ∧ (∀ x, x < 96 → τ' 2 x = nI ((skN at_ rt rm K 0 (hrL τ wd h (page (nI h - τ 0 10)) L) ld).1 x)) ∧ (∀ i, i < 4 → τ' 13 i = nI ((skN at_ rt rm K 0 (hrL τ wd h (page (nI h - τ 0 10)) L) ld).2 i)) ∧ ∀ i, i < 4 → τ' 14 i = τ 14 i + nI ((skN at_ rt rm K 0 (hrL τ wd h (page (nI h - τ 0 10)) L) ld).2 i - ld i) := by
  obtain ⟨hnet, hsky, hbm, hK4, hK1, hK2⟩ := hE
  obtain ⟨w4, f9, -, -, hwf⟩ := sky_eq hsky hwd hh
  have hr : ∀ c, c < 96 → ∃ v, v ≤ 9 ∧ τ 1 c = nI v := fun c hc => by obtain ⟨v, hv, e1, e2⟩ := hnet c hc; exact ⟨v, hv, e2⟩
  have e59 : f_X9_hour (nI wd) τ = f_X9_hour_59 (nI (wyN τ wd h)) (nI (fcN τ wd h)) τ := by
    unfold f_X9_hour f_X9_hour_29
    rw [ht]
    by_cases h5 : h ≤ 500
    · obtain ⟨q1, q2⟩ := hwf h5
      rw [if_pos (show nI h ≤ 500 from nI_le (b := 500) h5 (by decide)), if_pos (show nI h ≤ 500 from nI_le (b := 500) h5 (by decide)), show (501 : Int32) * nI wd + nI h = nI (wd * 501 + h) from by rw [show (501 : Int32) = nI 501 from rfl, pk_mul, nI_add, Nat.mul_comm], ojChk_nI (by omega) (by decide), ojChk_nI (by omega) (by decide), nI_clamp (by omega), q1, q2]
    · have n5 : ¬ nI h ≤ 500 := fun q => h5 ((nI_leI (b := 500) (by omega) (by decide)).mp q)
      rw [if_neg n5, if_neg n5]
      unfold wyN fcN
      rw [if_neg h5, if_neg h5]
      rfl
  rw [e59]
  unfold f_X9_hour_59
  obtain ⟨τ1, a1, a2, a3⟩ := md_zero (τ := τ) (a2 := nI (wyN τ wd h)) (a3 := nI (fcN τ wd h))
  rw [a1]
  have t1 : τ1 1 = τ 1 := a2 1 (by omega)
  have t5 : τ1 5 = τ 5 := a2 5 (by omega)
  have t6 : τ1 6 = τ 6 := a2 6 (by omega)
  have t7 : τ1 7 = τ 7 := a2 7 (by omega)
  have t8 : τ1 8 = τ 8 := a2 8 (by omega)
  have eh : hfT τ1 (wyN τ wd h) (fcN τ wd h) = hfT τ (wyN τ wd h) (fcN τ wd h) := by funext c; unfold hfT; rw [t5, t6, t7, t8]
  obtain ⟨τ2, b1, b2, b3, b4, b5⟩ := md_drift (τ := τ1) (w := wyN τ wd h) (f := fcN τ wd h) (L := L) (by rw [t5]; exact Rbm_01 hbm) (by rw [t1]; exact hr) w4 (by rw [a2 2 (by omega)]; exact hL) (fun c hc => nsum_bd hT hc) a3 (by rw [t5, t6, t7]; exact hbm.2.2.2)
  rw [b1, m226_page, b3 0 (by omega), b3 10 (by omega), a2 0 (by omega), ht]
  have ed : ∀ x, x < 96 → nI (L x) + τ2 21 x = nI (dr0 τ wd h L x) := fun x hx => by rw [b5 x hx, eh, t1]; rfl
  obtain ⟨τ3, c1, c2, c3, c4, c5⟩ := md_lose (τ := τ2) (p := page (nI h - τ 0 10)) (L := L) (L1 := dr0 τ wd h L) (page_le _) (by rw [b2 1 (by omega) (by omega), t1]; exact hr) (by rw [b2 2 (by omega) (by omega), a2 2 (by omega)]; exact hL) ed (fun c hc => nsum_bd (Nat.le_trans dr0_sum hT) hc)
  rw [c1]
  have u1 : τ2 1 = τ 1 := by rw [b2 1 (by omega) (by omega), t1]
  rw [u1] at c4 c5
  have fr : ∀ k, k ≠ 0 → k ≠ 2 → k ≠ 21 → τ3 k = τ k := fun k q1 q2 q3 => by rw [c2 k q2 q1, b2 k q3 q1, a2 k q3]
  obtain ⟨τ', d1, d2, d3, d4, d5, d6, d7, d8⟩ := md_skim (τ := τ3) (at_ := at_) (rt := rt) (rm := rm) (K := K) (L := hrL τ wd h (page (nI h - τ 0 10)) L) (ld := ld) hK4 (by rw [c3 14 (by omega), b3 14 (by omega), a2 0 (by omega)]; exact hK2) (fun i hi => by rw [fr 9 (by omega) (by omega) (by omega), fr 10 (by omega) (by omega) (by omega), fr 11 (by omega) (by omega) (by omega)]; exact hF i hi) c5 (fun i hi => by rw [fr 13 (by omega) (by omega) (by omega)]; exact hD i hi) (fun c hc => nsum_bd (Nat.le_trans hrL_sum hT) hc) hl
  refine ⟨τ', d1, fun k q1 q2 q3 q4 q5 => by rw [d2 k q1 q2 q3 q4, fr k q1 q2 q5], fun j q1 q2 q3 q4 => by rw [d3 j q1 q4, c3 j q2, b3 j q3, a2 0 (by omega)], ?_, ?_, ?_, ?_, d6, d7, fun i hi => by rw [d8 i hi, fr 14 (by omega) (by omega) (by omega)]⟩
  · rw [d4, c3 0 (by omega), b3 0 (by omega), a2 0 (by omega), ht, nI_1]
  · rw [d3 11 (by omega) (by omega), c4, b3 11 (by omega), a2 0 (by omega)]
  · rw [d3 12 (by omega) (by omega), c3 12 (by omega), b4, a2 0 (by omega), t1]
  · rw [d5, c3 13 (by omega), b3 13 (by omega), a2 0 (by omega)]
