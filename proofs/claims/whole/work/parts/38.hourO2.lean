theorem drf_sum {rk : Nat → Int32} {hf : Nat → Nat} {w : Nat} {L : Nat → Nat} : nsum (drf rk hf w L) 96 ≤ nsum L 96 := by
  have e1 : nsum (drf rk hf w L) 96 = nsum (fun x => L x - ddf rk hf w L x) 96 + nsum (fun x => nsum (fun y => if ah y w = x then ddf rk hf w L y else 0) 96) 96 := nsum_add (f := fun x => L x - ddf rk hf w L x) (g := fun x => nsum (fun y => if ah y w = x then ddf rk hf w L y else 0) 96)
  rw [e1, nsum_swap]
  have e2 : nsum (fun y => nsum (fun x => if ah y w = x then ddf rk hf w L y else 0) 96) 96 ≤ nsum (ddf rk hf w L) 96 := nsum_le (fun y _ => by
    rw [nsum_one (f := L)]
    split
    · exact Nat.le_refl _
    · exact Nat.zero_le _)
  have e3 : nsum (fun x => L x - ddf rk hf w L x) 96 + nsum (ddf rk hf w L) 96 = nsum L 96 := by
    rw [← nsum_add]
    exact nsum_congr (fun k _ => by have := ddf_le (rk := rk) (hf := hf) (w := w) (L := L) k; omega)
  omega
theorem lsf_le {rk : Nat → Int32} {p : Nat} {L : Nat → Nat} (x : Nat) : lsf rk p L x ≤ L x := by
  unfold lsf
  split
  · exact Nat.sub_le _ _
  · exact Nat.le_refl _
theorem nsum_bd {L : Nat → Nat} {M : Nat} (h : nsum L 96 ≤ M) {c : Nat} (hc : c < 96) : L c ≤ M := Nat.le_trans (nsum_ge hc) h
theorem ow_lose {σ : ojS} {n p : Nat} {rk : Nat → Int32} {L : Nat → Nat} (hp : p ≤ 30) (hr : ∀ c, c < 96 → σ 2 c = rk c) (hL : ∀ c, c < 96 → σ (23 + n) c = nI (L c)) (hb : ∀ c, c < 96 → L c ≤ 1000000) :
    ∃ σ', f_X8_loseByAge_23 n (nI p) σ = some σ' ∧ (∀ k, k ≠ 23 + n → k ≠ 19 + n → σ' k = σ k) ∧ (∀ j, j ≠ 2 → σ' (19 + n) j = σ (19 + n) j) ∧ σ' (19 + n) 2 = σ (19 + n) 2 + isum (fun c => nI (lsa rk p L c)) 96 ∧ ∀ x, x < 96 → σ' (23 + n) x = nI (lsf rk p L x) := by
  unfold f_X8_loseByAge_23 f_X8_loseByAge_27
  refine ojFix_inv (bot := fun _ _ => none) (fun (r : Int32 → ojS → Option ojS) (a : Int32 × ojS) => r a.1 a.2) _ (fun t a => a.1 = nI t ∧ (∀ k, k ≠ 23 + n → k ≠ 19 + n → a.2 k = σ k) ∧ (∀ j, j ≠ 2 → a.2 (19 + n) j = σ (19 + n) j) ∧ a.2 (19 + n) 2 = σ (19 + n) 2 + isum (fun c => nI (lsa rk p L c)) t ∧ ∀ x, x < 96 → a.2 (23 + n) x = nI (if x < t then lsf rk p L x else L x)) (fun z => ∃ σ', z = some σ' ∧ (∀ k, k ≠ 23 + n → k ≠ 19 + n → σ' k = σ k) ∧ (∀ j, j ≠ 2 → σ' (19 + n) j = σ (19 + n) j) ∧ σ' (19 + n) 2 = σ (19 + n) 2 + isum (fun c => nI (lsa rk p L c)) 96 ∧ ∀ x, x < 96 → σ' (23 + n) x = nI (lsf rk p L x)) 96 ?_ ?_ 600 0 (0, σ) (by decide) (by decide) ⟨rfl, fun _ _ _ => rfl, fun _ _ => rfl, by rw [isum, Int32.add_zero], fun x hx => by show σ (23 + n) x = _; rw [hL x hx, if_neg (Nat.not_lt_zero _)]⟩
  · rintro r t ⟨i, s⟩ ht ⟨h1, h2, h3, h4, h5⟩
    dsimp only at h1 h2 h3 h4 h5 ⊢
    subst h1
    rw [if_neg (ge_96 ht), isSea_rk (rk := rk) (fun c hc => by rw [h2 2 (by omega) (by omega)]; exact hr c hc) ht]
    simp only [ojB1_s]
    have cur : s (23 + n) t = nI (L t) := by rw [h5 t ht, if_neg (Nat.lt_irrefl t)]
    have lt1 : ∀ x, x ≠ t → ∀ a b : Nat, (if x < t + 1 then a else b) = if x < t then a else b := fun x hx a b => by
      by_cases q : x < t
      · rw [if_pos q, if_pos (by omega)]
      · rw [if_neg q, if_neg (by omega)]
    by_cases hsea : rk t = 0
    · rw [if_pos hsea]
      have hbt := hb t ht
      have hmul : L t * p ≤ 1000000 * 30 := Nat.mul_le_mul hbt hp
      have ex : nI (L t) * nI p / 1000 = nI (L t * p / 1000) := by
        rw [pk_mul]
        exact pk_div (d := 1000) (by omega) (by decide) (by decide)
      simp only [if10, ifF, ojChk_nI ht (by decide), nI_clamp (show t < 2 ^ 31 by omega), ojLet_s, cur, ex]
      have hle : L t * p / 1000 ≤ L t := by
        apply Nat.div_le_of_le_mul
        calc L t * p ≤ L t * 1000 := Nat.mul_le_mul_left _ (by omega)
          _ = 1000 * L t := Nat.mul_comm _ _
      refine Or.inl ⟨(nI t + 1, ojU (ojU s (23 + n) t (nI (L t) - nI (L t * p / 1000))) (19 + n) 2 (ojU s (23 + n) t (nI (L t) - nI (L t * p / 1000)) (19 + n) 2 + nI (L t * p / 1000))), ⟨nI_1 t, fun k q1 q2 => ?_, fun j hj => ?_, ?_, fun x hx => ?_⟩, rfl⟩
      · dsimp only
        rw [ojU_ne q2, ojU_ne q1, h2 k q1 q2]
      · dsimp only
        rw [ojU_eq, upd_ne hj, ojU_ne (by omega), h3 j hj]
      · dsimp only
        rw [ojU_eq, upd_eq, ojU_ne (by omega), h4, isum, Int32.add_assoc]
        show _ = _ + (_ + nI (lsa rk p L t))
        rw [lsa, if_pos hsea]
      · dsimp only
        rw [ojU_ne (by omega), ojU_eq]
        by_cases e : x = t
        · subst e
          rw [upd_eq, if_pos (by omega), lsf, if_pos hsea, pk_sub hle]
        · rw [upd_ne e, h5 x hx, lt1 x e]
    · rw [if_neg hsea]
      simp only [if00, ifT, ojLet_s]
      refine Or.inl ⟨(nI t + 1, s), ⟨nI_1 t, h2, h3, ?_, fun x hx => ?_⟩, rfl⟩
      · dsimp only
        rw [h4, isum]
        show _ = _ + (_ + nI (lsa rk p L t))
        rw [lsa, if_neg hsea, nI_add0]
      · dsimp only
        rw [h5 x hx]
        by_cases e : x = t
        · subst e
          rw [if_neg (Nat.lt_irrefl _), if_pos (by omega), lsf, if_neg hsea]
        · rw [lt1 x e]
  · rintro r ⟨i, s⟩ ⟨h1, h2, h3, h4, h5⟩
    dsimp only at h1 h2 h3 h4 h5 ⊢
    subst h1
    rw [if_pos (show (96 : Int32) ≤ nI 96 by decide)]
    exact ⟨s, rfl, h2, h3, h4, fun x hx => by rw [h5 x hx, if_pos hx]⟩
def page (a : Int32) : Nat := if 12 ≤ a then (if 48 ≤ a then 2 else 10) else 30
theorem page_le (a : Int32) : page a ≤ 30 := by
  unfold page
  split
  · split <;> decide
  · decide
theorem lose_page {n : Nat} {a : Int32} {σ : ojS} : f_X8_loseByAge n a σ = f_X8_loseByAge_23 n (nI (page a)) σ := by
  unfold f_X8_loseByAge page
  by_cases h1 : 12 ≤ a
  · rw [if_pos h1, if_pos h1]
    by_cases h2 : 48 ≤ a
    · rw [if_pos h2, if_pos h2]; exact congrArg (fun z => f_X8_loseByAge_23 n z σ) (rfl : (2 : Int32) = nI 2)
    · rw [if_neg h2, if_neg h2]; exact congrArg (fun z => f_X8_loseByAge_23 n z σ) (rfl : (10 : Int32) = nI 10)
  · rw [if_neg h1, if_neg h1]; exact congrArg (fun z => f_X8_loseByAge_23 n z σ) (rfl : (30 : Int32) = nI 30)
/-! skimming -/
def tkn (rt rm ld L : Nat → Nat) (i c : Nat) : Nat := min (min (rt i) (rm i - ld i)) (L c)
def skL (at_ rt rm L ld : Nat → Nat) (i : Nat) : Nat → Nat := fun x => if x = at_ i then L x - tkn rt rm ld L i (at_ i) else L x
def skD (at_ rt rm L ld : Nat → Nat) (i : Nat) : Nat → Nat := fun j => if j = i then ld j + tkn rt rm ld L i (at_ i) else ld j
def skN (at_ rt rm : Nat → Nat) : Nat → Nat → (Nat → Nat) → (Nat → Nat) → (Nat → Nat) × (Nat → Nat)
  | 0, _, L, ld => (L, ld)
  | m + 1, i, L, ld => skN at_ rt rm m (i + 1) (skL at_ rt rm L ld i) (skD at_ rt rm L ld i)
theorem ojMin_nI {a b : Nat} (ha : a < 2 ^ 31) (hb : b < 2 ^ 31) : ojMin (nI a) (nI b) = nI (min a b) := by
  unfold ojMin
  by_cases h : b < a
  · rw [if_pos ((nI_ltI hb ha).mpr h), Nat.min_eq_right (by omega)]
  · rw [if_neg (fun q => h ((nI_ltI hb ha).mp q)), Nat.min_eq_left (by omega)]
theorem ow_canTake {σ : ojS} {n i c : Nat} {rt rm ld L : Nat → Nat} (hi : i < 4) (hc : c < 96) (h1 : σ (15 + i) 1 = nI (rt i)) (h2 : σ (15 + i) 2 = nI (rm i)) (h3 : σ (27 + n) i = nI (ld i)) (h4 : σ (23 + n) c = nI (L c)) (b1 : rt i ≤ 5000) (b2 : rm i ≤ 100000) (b3 : ld i ≤ rm i) (b4 : L c ≤ 1000000) : f_X1_canTake n (nI i) (nI c) σ = some (nI (tkn rt rm ld L i c)) := by
  unfold f_X1_canTake f_X1_roomLeft
  simp only [ojChk_nI hi (by decide), ojChk_nI hc (by decide), nI_clamp (show i < 2 ^ 31 by omega), nI_clamp (show c < 2 ^ 31 by omega), ojB1_s, ojLet_s, h1, h2, h3, h4]
  rw [pk_sub b3, ojMin_nI (by omega) (by omega), ojMin_nI (by omega) (by omega)]
  rfl
theorem ow_take {σ : ojS} {n i c : Nat} {rt rm ld L : Nat → Nat} (hi : i < 4) (hc : c < 96) (h1 : σ (15 + i) 1 = nI (rt i)) (h2 : σ (15 + i) 2 = nI (rm i)) (h3 : σ (27 + n) i = nI (ld i)) (h4 : σ (23 + n) c = nI (L c)) (b1 : rt i ≤ 5000) (b2 : rm i ≤ 100000) (b3 : ld i ≤ rm i) (b4 : L c ≤ 1000000) : f_X1_take n (nI i) (nI c) σ = some (ojU (ojU σ (23 + n) c (nI (L c - tkn rt rm ld L i c))) (27 + n) i (nI (ld i + tkn rt rm ld L i c))) := by
  unfold f_X1_take
  rw [ow_canTake hi hc h1 h2 h3 h4 b1 b2 b3 b4]
  have e1 : nI (L c) - nI (tkn rt rm ld L i c) = nI (L c - tkn rt rm ld L i c) := pk_sub (by unfold tkn; omega)
  simp only [ojB1_s, ojChk_nI hi (by decide), ojChk_nI hc (by decide), nI_clamp (show i < 2 ^ 31 by omega), nI_clamp (show c < 2 ^ 31 by omega), ojLet_s, h4, e1]
  rw [ojU_ne (show 27 + n ≠ 23 + n by omega), h3, nI_add]
theorem ow_skim {σ : ojS} {n : Nat} {at_ rt rm : Nat → Nat} {i0 m : Nat} (hm : i0 + m ≤ 4) (hf : ∀ i, i0 ≤ i → i < i0 + m → σ (15 + i) 0 = nI (at_ i) ∧ σ (15 + i) 1 = nI (rt i) ∧ σ (15 + i) 2 = nI (rm i) ∧ at_ i < 96 ∧ rt i ≤ 5000 ∧ rm i ≤ 100000) {L ld : Nat → Nat} (hL : ∀ c, c < 96 → σ (23 + n) c = nI (L c)) (hD : ∀ i, i < 4 → σ (27 + n) i = nI (ld i)) (hb : ∀ c, c < 96 → L c ≤ 1000000) (hl : ∀ i, i0 ≤ i → i < i0 + m → ld i ≤ rm i) (hn : n < 4) :
    ∃ σ', f_X1_skim n (nI i0) (nI (i0 + m)) σ = some σ' ∧ (∀ k, k ≠ 23 + n → k ≠ 27 + n → σ' k = σ k) ∧ (∀ x, x < 96 → σ' (23 + n) x = nI ((skN at_ rt rm m i0 L ld).1 x)) ∧ ∀ i, i < 4 → σ' (27 + n) i = nI ((skN at_ rt rm m i0 L ld).2 i) := by
  unfold f_X1_skim f_X1_skim_3
  refine ojFix_inv (bot := fun _ _ => none) (fun (r : Int32 → ojS → Option ojS) (a : Int32 × ojS) => r a.1 a.2) _ (fun t a => a.1 = nI (i0 + t) ∧ (∀ k, k ≠ 23 + n → k ≠ 27 + n → a.2 k = σ k) ∧ ∃ L1 l1 : Nat → Nat, skN at_ rt rm (m - t) (i0 + t) L1 l1 = skN at_ rt rm m i0 L ld ∧ (∀ c, c < 96 → a.2 (23 + n) c = nI (L1 c)) ∧ (∀ i, i < 4 → a.2 (27 + n) i = nI (l1 i)) ∧ (∀ c, c < 96 → L1 c ≤ 1000000) ∧ ∀ i, i0 + t ≤ i → i < i0 + m → l1 i ≤ rm i) (fun z => ∃ σ', z = some σ' ∧ (∀ k, k ≠ 23 + n → k ≠ 27 + n → σ' k = σ k) ∧ (∀ x, x < 96 → σ' (23 + n) x = nI ((skN at_ rt rm m i0 L ld).1 x)) ∧ ∀ i, i < 4 → σ' (27 + n) i = nI ((skN at_ rt rm m i0 L ld).2 i)) m ?_ ?_ 600 0 (nI i0, σ) (by omega) (by omega) ⟨rfl, fun _ _ _ => rfl, L, ld, rfl, hL, hD, hb, hl⟩
  · rintro r t ⟨i, s⟩ ht ⟨h1, h2, L1, l1, h3, h4, h5, h6, h7⟩
    dsimp only at h1 h2 h4 h5 ⊢
    subst h1
    rw [if_neg (nI_ge (show i0 + t < i0 + m by omega) (by omega)), ojChk_nI (show i0 + t < 4 by omega) (by decide), nI_clamp (by omega)]
    obtain ⟨f1, f2, f3, f4, f5, f6⟩ := hf (i0 + t) (by omega) (by omega)
    have fr : s (15 + (i0 + t)) = σ (15 + (i0 + t)) := h2 _ (by omega) (by omega)
    rw [fr, f1, ow_take (rt := rt) (rm := rm) (ld := l1) (L := L1) (show i0 + t < 4 by omega) f4 (by rw [fr]; exact f2) (by rw [fr]; exact f3) (h5 _ (by omega)) (h4 _ f4) f5 f6 (h7 _ (by omega) (by omega)) (h6 _ f4)]
    simp only [ojBv_s, ojLet_s]
    refine Or.inl ⟨(nI (i0 + t) + 1, ojU (ojU s (23 + n) (at_ (i0 + t)) (nI (L1 (at_ (i0 + t)) - tkn rt rm l1 L1 (i0 + t) (at_ (i0 + t))))) (27 + n) (i0 + t) (nI (l1 (i0 + t) + tkn rt rm l1 L1 (i0 + t) (at_ (i0 + t))))), ⟨nI_1 _, fun k q1 q2 => ?_, skL at_ rt rm L1 l1 (i0 + t), skD at_ rt rm L1 l1 (i0 + t), ?_, fun c hc => ?_, fun j hj => ?_, fun c hc => ?_, fun j j1 j2 => ?_⟩, rfl⟩
    · dsimp only
      rw [ojU_ne q2, ojU_ne q1, h2 k q1 q2]
    · rw [← h3, show m - t = (m - (t + 1)) + 1 by omega]
      rfl
    · dsimp only
      rw [ojU_ne (by omega), ojU_eq, skL]
      by_cases e : c = at_ (i0 + t)
      · rw [e, upd_eq, if_pos rfl]
      · rw [upd_ne e, if_neg e, h4 c hc]
    · dsimp only
      rw [ojU_eq, ojU_ne (show 27 + n ≠ 23 + n by omega), skD]
      by_cases e : j = i0 + t
      · rw [e, upd_eq, if_pos rfl]
      · rw [upd_ne e, if_neg e, h5 j hj]
    · unfold skL
      have := h6 c hc
      split <;> omega
    · unfold skD
      rw [if_neg (by omega)]
      exact h7 j (by omega) j2
  · rintro r ⟨i, s⟩ ⟨h1, h2, L1, l1, h3, h4, h5, h6, h7⟩
    dsimp only at h1 h2 h4 h5 ⊢
    subst h1
    rw [if_pos (Int32.le_refl _)]
    rw [Nat.sub_self] at h3
    rw [← h3]
    exact ⟨s, rfl, h2, h4, h5⟩
theorem skN_sum {at_ rt rm : Nat → Nat} : ∀ m i L ld, i + m ≤ 4 → (∀ j, i ≤ j → j < i + m → at_ j < 96) → nsum (skN at_ rt rm m i L ld).1 96 + nsum (skN at_ rt rm m i L ld).2 4 = nsum L 96 + nsum ld 4 := by
  intro m
  induction m with
  | zero => intro i L ld _ _; rfl
  | succ m ih =>
    intro i L ld h1 h2
    rw [skN, ih (i + 1) _ _ (by omega) (fun j q1 q2 => h2 j (by omega) (by omega))]
    have ha := h2 i (Nat.le_refl _) (by omega)
    have e1 : nsum (skD at_ rt rm L ld i) 4 = nsum ld 4 + tkn rt rm ld L i (at_ i) := by
      show nsum (fun j => if j = i then ld j + tkn rt rm ld L i (at_ i) else ld j) 4 = _
      rw [nsum_upd, if_pos (by omega)]
    have e2 : nsum (skL at_ rt rm L ld i) 96 + tkn rt rm ld L i (at_ i) = nsum L 96 := by
      have : nsum (fun x => if x = at_ i then skL at_ rt rm L ld i x + tkn rt rm ld L i (at_ i) else skL at_ rt rm L ld i x) 96 = nsum (skL at_ rt rm L ld i) 96 + tkn rt rm ld L i (at_ i) := by
        rw [nsum_upd, if_pos ha]
      rw [← this]
      refine nsum_congr (fun x _ => ?_)
      unfold skL
      by_cases e : x = at_ i
      · rw [if_pos e, if_pos e, e]
        have : tkn rt rm ld L i (at_ i) ≤ L (at_ i) := by unfold tkn; omega
        omega
      · rw [if_neg e, if_neg e]
    omega
theorem skN_le {at_ rt rm : Nat → Nat} : ∀ m i L ld x, (skN at_ rt rm m i L ld).1 x ≤ L x := by
  intro m
  induction m with
  | zero => intro i L ld x; exact Nat.le_refl _
  | succ m ih =>
    intro i L ld x
    refine Nat.le_trans (ih _ _ _ x) ?_
    unfold skL
    split <;> omega
theorem skN_ge {at_ rt rm : Nat → Nat} : ∀ m i L ld j, ld j ≤ (skN at_ rt rm m i L ld).2 j := by
  intro m
  induction m with
  | zero => intro i L ld x; exact Nat.le_refl _
  | succ m ih =>
    intro i L ld j
    refine Nat.le_trans ?_ (ih _ _ _ j)
    unfold skD
    split <;> omega
theorem skN_rm {at_ rt rm : Nat → Nat} : ∀ m i L ld j, ld j ≤ rm j → (skN at_ rt rm m i L ld).2 j ≤ rm j := by
  intro m
  induction m with
  | zero => intro i L ld j h; exact h
  | succ m ih =>
    intro i L ld j h
    refine ih _ _ _ j ?_
    unfold skD tkn
    split
    · rename_i e; subst e; omega
    · exact h
theorem skN_out {at_ rt rm : Nat → Nat} : ∀ m i L ld j, (j < i ∨ i + m ≤ j) → (skN at_ rt rm m i L ld).2 j = ld j := by
  intro m
  induction m with
  | zero => intro i L ld j h; rfl
  | succ m ih =>
    intro i L ld j h
    rw [skN, ih _ _ _ j (by omega)]
    unfold skD
    rw [if_neg (by omega)]
