/-! an hour, in numbers, and the class's hour -/
def ddf (rk : Nat → Int32) (hf : Nat → Nat) (w : Nat) (L : Nat → Nat) (c : Nat) : Nat := if rk c = 0 then (if ah c w < 96 then L c / 2 / hf c else L c / 2) else 0
def drf (rk : Nat → Int32) (hf : Nat → Nat) (w : Nat) (L : Nat → Nat) (x : Nat) : Nat := L x - ddf rk hf w L x + nsum (fun y => if ah y w = x then ddf rk hf w L y else 0) 96
def awf (rk : Nat → Int32) (w : Nat) (L : Nat → Nat) (c : Nat) : Nat := if rk c = 0 then (if ah c w < 96 then 0 else L c / 2) else 0
def lsf (rk : Nat → Int32) (p : Nat) (L : Nat → Nat) (x : Nat) : Nat := if rk x = 0 then L x - L x * p / 1000 else L x
def lsa (rk : Nat → Int32) (p : Nat) (L : Nat → Nat) (x : Nat) : Nat := if rk x = 0 then L x * p / 1000 else 0
theorem ddf_le {rk : Nat → Int32} {hf : Nat → Nat} {w : Nat} {L : Nat → Nat} (c : Nat) : ddf rk hf w L c ≤ L c := by
  unfold ddf
  split
  · split
    · exact Nat.le_trans (Nat.div_le_self _ _) (Nat.div_le_self _ _)
    · exact Nat.div_le_self _ _
  · exact Nat.zero_le _
theorem nsum_shift {f : Nat → Nat} : ∀ {n : Nat}, nsum f (n + 1) = f 0 + nsum (fun k => f (k + 1)) n
  | 0 => by simp only [nsum]; omega
  | n + 1 => by rw [nsum, nsum_shift, nsum]; omega
theorem nsum_rev {f : Nat → Nat} : ∀ {n : Nat}, nsum (fun k => f (n - 1 - k)) n = nsum f n
  | 0 => rfl
  | n + 1 => by
    rw [nsum_shift, nsum]
    rw [nsum_congr (g := fun k => f (n - 1 - k)) (fun k hk => by show f (n + 1 - 1 - (k + 1)) = _; rw [show n + 1 - 1 - (k + 1) = n - 1 - k by omega])]
    rw [nsum_rev]
    show f (n + 1 - 1 - 0) + _ = _
    rw [show n + 1 - 1 - 0 = n by omega]; omega
theorem nsum_pw (w : Nat) (g : Nat → Nat) : nsum (fun u => g (pw w u)) 96 = nsum g 96 := by
  by_cases h : w = 2 ∨ w = 3
  · rw [← nsum_rev (f := g)]
    exact nsum_congr (fun k hk => by rw [pw, if_pos h])
  · exact nsum_congr (fun k hk => by rw [pw, if_neg h])
theorem isum_pw (w : Nat) (g : Nat → Int32) : isum (fun u => g (pw w u)) 96 = isum g 96 := by
  by_cases h : w = 2 ∨ w = 3
  · rw [← isum_rev (f := g)]
    exact isum_congr (fun k hk => by rw [pw, if_pos h])
  · exact isum_congr (fun k hk => by rw [pw, if_neg h])
theorem pw_pw (w : Nat) {x : Nat} (h : x < 96) : pw w (pw w x) = x := by unfold pw; split <;> omega
theorem nI_sub0 (x : Int32) : x - nI 0 = x := Int32.sub_zero x
theorem nI_add0 (x : Int32) : x + nI 0 = x := Int32.add_zero x
theorem ow_from64 {σ : ojS} {n c e : Nat} {d : Nat} (hc : c < 96) (he : e < 96) (hne : e ≠ c) :
    ∃ σ', f_X8_driftFrom_64 n (nI c) (nI d) (nI e) σ = some σ' ∧ (∀ k, k ≠ 23 + n → σ' k = σ k) ∧ ∀ x, x < 96 → σ' (23 + n) x = (if x = c then σ (23 + n) x - nI d else σ (23 + n) x) + (if e = x then nI d else 0) := by
  unfold f_X8_driftFrom_64
  simp only [ojChk_nI he (by decide), ojChk_nI hc (by decide), nI_clamp (show c < 2 ^ 31 by omega), nI_clamp (show e < 2 ^ 31 by omega), ojLet_s]
  refine ⟨_, rfl, fun k h1 => by rw [ojU_ne h1, ojU_ne h1], fun x hx => ?_⟩
  rw [ojU_eq, ojU_eq]
  by_cases h1 : x = c
  · subst h1
    rw [upd_eq, if_pos rfl, if_neg hne, upd_ne (fun e => hne e.symm), Int32.add_zero]
  · rw [upd_ne h1, if_neg h1]
    by_cases h2 : e = x
    · subst h2; rw [upd_eq, if_pos rfl]
    · rw [upd_ne (fun e => h2 e.symm), if_neg h2, Int32.add_zero]
theorem half_eq {a : Nat} (h : a ≤ 1000000) : nI a / 2 = nI (a / 2) := pk_div (d := 2) (by omega) (by decide) (by decide)
theorem tenth_eq {a : Nat} (h : a ≤ 1000000) : nI a / 10 = nI (a / 10) := pk_div (d := 10) (by omega) (by decide) (by decide)
theorem ow_from {σ : ojS} {n c w f : Nat} {rk : Nat → Int32} {hf L : Nat → Nat} (hc : c < 96) (hw1 : 1 ≤ w) (hw4 : w ≤ 4) (hs : rk c = 0) (hL : σ (23 + n) c = nI (L c)) (hb : L c ≤ 1000000)
    (hh : ah c w < 96 → (hf c = 1 ∧ f_X0_hold (nI c) (nI w) (nI f) σ = some 0) ∨ (hf c = 10 ∧ f_X0_hold (nI c) (nI w) (nI f) σ = some 1)) :
    ∃ σ', f_X8_driftFrom n (nI c) (nI w) (nI f) σ = some σ' ∧ (∀ k, k ≠ 23 + n → k ≠ 19 + n → σ' k = σ k) ∧ (∀ j, j ≠ 3 → σ' (19 + n) j = σ (19 + n) j) ∧ σ' (19 + n) 3 = σ (19 + n) 3 + nI (awf rk w L c) ∧ ∀ x, x < 96 → σ' (23 + n) x = (if x = c then σ (23 + n) x - nI (ddf rk hf w L c) else σ (23 + n) x) + (if ah c w = x then nI (ddf rk hf w L c) else 0) := by
  unfold f_X8_driftFrom
  rw [ojChk_nI hc (by decide), nI_clamp (by omega), hL]
  simp only [ojLet_s]
  have e2 : nI (L c) / 2 = nI (L c / 2) := half_eq hb
  rw [e2]
  have hah := ah_ne c hc w (by omega)
  have hahl := ah_lt c hc w (by omega)
  by_cases h0 : L c / 2 = 0
  · rw [if_pos (by rw [h0]; rfl)]
    have d0 : ddf rk hf w L c = 0 := by
      unfold ddf
      rw [if_pos hs, h0]
      split
      · exact Nat.zero_div _
      · rfl
    have a0 : awf rk w L c = 0 := by
      unfold awf
      rw [if_pos hs, h0]
      split <;> rfl
    refine ⟨σ, rfl, fun _ _ _ => rfl, fun _ _ => rfl, by rw [a0, nI_add0], fun x hx => ?_⟩
    rw [d0, nI_sub0]
    have z : (if ah c w = x then nI 0 else (0 : Int32)) = 0 := by split <;> rfl
    rw [z, Int32.add_zero]
    split <;> rfl
  · rw [if_neg (nI_ne0 (by omega) (by omega)), ahead_eq c hc w (by omega)]
    simp only [ojB1_s]
    by_cases hin : ah c w < 96
    · have a0 : awf rk w L c = 0 := by unfold awf; rw [if_pos hs, if_pos hin]
      have dc : ddf rk hf w L c = L c / 2 / hf c := by unfold ddf; rw [if_pos hs, if_pos hin]
      obtain ⟨σ', g1, g2, g3⟩ := ow_from64 (σ := σ) (n := n) (d := ddf rk hf w L c) hc hin hah
      have fin : ∀ v : Int32, v = nI (ddf rk hf w L c) → f_X8_driftFrom_64 n (nI c) v (nI (ah c w)) σ = some σ' := fun v hv => by rw [hv]; exact g1
      rw [aI, if_pos hin, if_neg (nI_ne_m1 (by omega))]
      rcases hh hin with ⟨q1, q2⟩ | ⟨q1, q2⟩
      · rw [q2]
        simp only [ojB1_s, if00, ifT]
        exact ⟨σ', fin _ (by rw [dc, q1, Nat.div_one]), fun k h1 _ => g2 k h1, fun j _ => by rw [g2 _ (by omega)], by rw [g2 _ (by omega), a0, nI_add0], g3⟩
      · rw [q2]
        simp only [ojB1_s, if10, ifF, ojLet_s]
        exact ⟨σ', fin _ (by rw [dc, q1]; exact tenth_eq (by omega)), fun k h1 _ => g2 k h1, fun j _ => by rw [g2 _ (by omega)], by rw [g2 _ (by omega), a0, nI_add0], g3⟩
    · have dc : ddf rk hf w L c = L c / 2 := by unfold ddf; rw [if_pos hs, if_neg hin]
      have ac : awf rk w L c = L c / 2 := by unfold awf; rw [if_pos hs, if_neg hin]
      rw [aI, if_neg hin, if_pos rfl]
      simp only [ojLet_s, ojChk_nI hc (by decide), nI_clamp (show c < 2 ^ 31 by omega)]
      refine ⟨_, rfl, fun k h1 h2 => by rw [ojU_ne h1, ojU_ne h2], fun j hj => by rw [ojU_ne (by omega), ojU_eq, upd_ne hj], by rw [ojU_ne (by omega), ojU_eq, upd_eq, ac], fun x hx => ?_⟩
      rw [ojU_eq, ojU_ne (show 23 + n ≠ 19 + n by omega), dc]
      by_cases h1 : x = c
      · subst h1
        rw [upd_eq, if_pos rfl, if_neg (by omega), Int32.add_zero]
      · rw [upd_ne h1, if_neg h1, if_neg (by omega), Int32.add_zero]
theorem isSea_rk {σ : ojS} {rk : Nat → Int32} (hr : ∀ c, c < 96 → σ 2 c = rk c) {c : Nat} (hc : c < 96) : f_X2_isSea (nI c) σ = some (if rk c = 0 then 1 else 0) := by
  unfold f_X2_isSea
  rcases cell_cases (nI c) with ⟨q, -⟩ | ⟨d, hd, e, q, -⟩
  · exfalso
    unfold f_X2_isCell at q
    rw [if_neg (nI_pos (by omega)), if_neg (ge_96 hc)] at q
    exact absurd q (by decide)
  · rw [q]
    simp only [ojB1_s, if10, ifF]
    rw [ojChk_nI hc (by decide), nI_clamp (by omega), hr c hc]
    split <;> rfl
theorem ow_drift {σ : ojS} {n w f : Nat} {rk : Nat → Int32} {hf L : Nat → Nat} (hr : ∀ c, c < 96 → σ 2 c = rk c) (hw1 : 1 ≤ w) (hw4 : w ≤ 4) (hL : ∀ c, c < 96 → σ (23 + n) c = nI (L c)) (hb : ∀ c, c < 96 → L c ≤ 1000000)
    (hh : ∀ (σ1 : ojS) (c : Nat), σ1 6 = σ 6 → c < 96 → ah c w < 96 → (hf c = 1 ∧ f_X0_hold (nI c) (nI w) (nI f) σ1 = some 0) ∨ (hf c = 10 ∧ f_X0_hold (nI c) (nI w) (nI f) σ1 = some 1)) :
    ∃ σ', f_X8_driftAll n (nI w) (nI f) σ = some σ' ∧ (∀ k, k ≠ 23 + n → k ≠ 19 + n → σ' k = σ k) ∧ (∀ j, j ≠ 3 → σ' (19 + n) j = σ (19 + n) j) ∧ σ' (19 + n) 3 = σ (19 + n) 3 + isum (fun c => nI (awf rk w L c)) 96 ∧ ∀ x, x < 96 → σ' (23 + n) x = nI (drf rk hf w L x) := by
  unfold f_X8_driftAll f_X8_driftAll_3
  refine ojFix_inv (bot := fun _ _ => none) (fun (r : Int32 → ojS → Option ojS) (a : Int32 × ojS) => r a.1 a.2) _ (fun t a => a.1 = nI t ∧ (∀ k, k ≠ 23 + n → k ≠ 19 + n → a.2 k = σ k) ∧ (∀ j, j ≠ 3 → a.2 (19 + n) j = σ (19 + n) j) ∧ a.2 (19 + n) 3 = σ (19 + n) 3 + isum (fun u => nI (awf rk w L (pw w u))) t ∧ ∀ x, x < 96 → a.2 (23 + n) x = nI (L x - (if pw w x < t then ddf rk hf w L x else 0) + nsum (fun u => if ah (pw w u) w = x then ddf rk hf w L (pw w u) else 0) t)) (fun z => ∃ σ', z = some σ' ∧ (∀ k, k ≠ 23 + n → k ≠ 19 + n → σ' k = σ k) ∧ (∀ j, j ≠ 3 → σ' (19 + n) j = σ (19 + n) j) ∧ σ' (19 + n) 3 = σ (19 + n) 3 + isum (fun c => nI (awf rk w L c)) 96 ∧ ∀ x, x < 96 → σ' (23 + n) x = nI (drf rk hf w L x)) 96 ?_ ?_ 600 0 (0, σ) (by decide) (by decide) ⟨rfl, fun _ _ _ => rfl, fun _ _ => rfl, by rw [isum, Int32.add_zero], fun x hx => by show σ (23 + n) x = _; rw [hL x hx, if_neg (Nat.not_lt_zero _)]; rfl⟩
  · rintro r t ⟨i, s⟩ ht ⟨h1, h2, h3, h4, h5⟩
    dsimp only at h1 h2 h3 h4 h5 ⊢
    subst h1
    have hc := pw_lt w t ht
    rw [if_neg (ge_96 ht), turn_eq t ht w (by omega)]
    simp only [ojB1_s]
    rw [isSea_rk (rk := rk) (fun c hc => by rw [h2 2 (by omega) (by omega)]; exact hr c hc) hc]
    simp only [ojB1_s]
    have nz : nsum (fun u => if ah (pw w u) w = pw w t then ddf rk hf w L (pw w u) else 0) t = 0 := nsum_zero (fun u hu => if_neg (ah_turn w (by omega) t ht u (by omega) (by omega)))
    have cur : s (23 + n) (pw w t) = nI (L (pw w t)) := by
      rw [h5 _ hc, pw_pw w ht, if_neg (Nat.lt_irrefl t), nz]; rfl
    have lt1 : ∀ x, x < 96 → (pw w x < t + 1 ↔ pw w x < t ∨ x = pw w t) := fun x hx => by
      constructor
      · intro q
        by_cases e : pw w x < t
        · exact Or.inl e
        · exact Or.inr (by rw [show t = pw w x by omega, pw_pw w hx])
      · rintro (q | q)
        · omega
        · rw [q, pw_pw w ht]; omega
    by_cases hsea : rk (pw w t) = 0
    · rw [if_pos hsea]
      simp only [if10, ifF]
      obtain ⟨σ', g1, g2, g3, g4, g5⟩ := ow_from (n := n) (rk := rk) (hf := hf) (L := L) (f := f) (w := w) hc hw1 hw4 hsea cur (hb _ hc) (fun q => hh s (pw w t) (h2 6 (by omega) (by omega)) hc q)
      rw [g1]
      simp only [ojBv_s, ojLet_s]
      refine Or.inl ⟨(nI t + 1, σ'), ⟨nI_1 t, fun k q1 q2 => by show σ' k = _; rw [g2 k q1 q2, h2 k q1 q2], fun j hj => by show σ' (19 + n) j = _; rw [g3 j hj, h3 j hj], by show σ' (19 + n) 3 = _; rw [g4, h4, isum, Int32.add_assoc], fun x hx => ?_⟩, rfl⟩
      show σ' (23 + n) x = _
      rw [g5 x hx, nsum, h5 x hx]
      by_cases e1 : x = pw w t
      · subst e1
        rw [if_pos rfl, if_neg (ah_ne _ hc w (by omega)), if_neg (by rw [pw_pw w ht]; omega), if_pos (by rw [pw_pw w ht]; omega), nz, Int32.add_zero, if_neg (ah_ne _ hc w (by omega))]
        rw [show L (pw w t) - 0 + 0 = L (pw w t) by omega, pk_sub (ddf_le _)]
        rfl
      · rw [if_neg e1]
        have e2 : (if pw w x < t + 1 then ddf rk hf w L x else 0) = (if pw w x < t then ddf rk hf w L x else 0) := by
          by_cases q : pw w x < t
          · rw [if_pos q, if_pos (by omega)]
          · rw [if_neg q, if_neg (fun z => by rcases (lt1 x hx).mp z with z | z; exact q z; exact e1 z)]
        rw [e2]
        by_cases e3 : ah (pw w t) w = x
        · rw [if_pos e3, if_pos e3, nI_add, Nat.add_assoc]
        · rw [if_neg e3, if_neg e3, Int32.add_zero]; rfl
    · rw [if_neg hsea]
      simp only [if00, ifT, ojLet_s]
      have d0 : ddf rk hf w L (pw w t) = 0 := by unfold ddf; rw [if_neg hsea]
      have a0 : awf rk w L (pw w t) = 0 := by unfold awf; rw [if_neg hsea]
      refine Or.inl ⟨(nI t + 1, s), ⟨nI_1 t, h2, h3, by show s (19 + n) 3 = _; rw [h4, isum, a0, nI_add0], fun x hx => ?_⟩, rfl⟩
      show s (23 + n) x = _
      rw [h5 x hx, nsum, d0]
      have z : (if ah (pw w t) w = x then 0 else 0) = 0 := by split <;> rfl
      rw [z]
      by_cases e1 : x = pw w t
      · rw [e1, d0]
        have z2 : ∀ q : Prop, ∀ _ : Decidable q, (if q then (0 : Nat) else 0) = 0 := fun q _ => by split <;> rfl
        rw [z2, z2]; rfl
      · by_cases q : pw w x < t
        · rw [if_pos q, if_pos (by omega)]; rfl
        · rw [if_neg q, if_neg (fun z => by rcases (lt1 x hx).mp z with z | z; exact q z; exact e1 z)]; rfl
  · rintro r ⟨i, s⟩ ⟨h1, h2, h3, h4, h5⟩
    dsimp only at h1 h2 h3 h4 h5 ⊢
    subst h1
    rw [if_pos (show (96 : Int32) ≤ nI 96 by decide)]
    refine ⟨s, rfl, h2, h3, by rw [h4, isum_pw w (fun c => nI (awf rk w L c))], fun x hx => ?_⟩
    rw [h5 x hx, if_pos (pw_lt w x hx), nsum_pw w (fun y => if ah y w = x then ddf rk hf w L y else 0)]
    rfl
