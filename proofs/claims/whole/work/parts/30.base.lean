/-! pure rows: the loop rule, sums, small words -/
theorem ojFix_inv {γ A α : Type} {bot : γ} (ap : γ → A → Option α) (F : γ → γ) (Inv : Nat → A → Prop) (Post : Option α → Prop) (N : Nat)
    (hs : ∀ (r : γ) (k : Nat) (a : A), k < N → Inv k a → (∃ a', Inv (k + 1) a' ∧ ap (F r) a = ap r a') ∨ Post (ap (F r) a))
    (he : ∀ (r : γ) (a : A), Inv N a → Post (ap (F r) a)) :
    ∀ (n k : Nat) (a : A), k ≤ N → N < k + n → Inv k a → Post (ap (ojFix bot n F) a) := by
  intro n
  induction n with
  | zero => intro k a h1 h2; omega
  | succ n ih =>
    intro k a h1 h2 h3
    show Post (ap (F (ojFix bot n F)) a)
    by_cases hk : k = N
    · subst hk; exact he _ a h3
    · rcases hs (ojFix bot n F) k a (by omega) h3 with ⟨a', h4, h5⟩ | h4
      · rw [h5]; exact ih (k + 1) a' (by omega) (by omega) h4
      · exact h4
theorem ojChk_nI {α : Type} {k n : Nat} {x : Option α} (h : k < n) (hn : n < 2 ^ 31) : ojChk (nI k) n x = x := by
  unfold ojChk
  rw [if_neg (nI_in h hn)]
theorem ojB1_s {α : Type} {r : Int32} {k : Int32 → Option α} : ojB1 (some r) k = k r := (Eq.refl _).trans (Eq.refl _)
theorem ojB2_s {α : Type} {r : Int32} {s : ojS} {k : Int32 → ojS → Option α} : ojB2 (some (r, s)) k = k r s := (Eq.refl _).trans (Eq.refl _)
theorem ojBv_s {α : Type} {s : ojS} {k : ojS → Option α} : ojBv (some s) k = k s := (Eq.refl _).trans (Eq.refl _)
theorem ojLet_s {α β : Type} {v : β} {k : β → Option α} : ojLet v k = k v := (Eq.refl _).trans (Eq.refl _)
theorem ojBl_0 {α : Type} {x : Option α} : ojBl 0 x = x := (Eq.refl _).trans (Eq.refl _)
theorem ojBl_1 {α : Type} {x : Option α} : ojBl 1 x = x := (Eq.refl _).trans (Eq.refl _)
theorem ojW_get (σ : ojS) (k k' : Nat) (f : Nat → Int32) : ojW σ k f k' = if k' = k then f else σ k' := rfl
theorem ojU_get (σ : ojS) (k j k' : Nat) (v : Int32) : ojU σ k j v k' = if k' = k then upd (σ k) j v else σ k' := rfl
theorem ojU_ne {σ : ojS} {k j k' : Nat} {v : Int32} (h : k' ≠ k) : ojU σ k j v k' = σ k' := if_neg h
theorem ojU_eq {σ : ojS} {k j : Nat} {v : Int32} : ojU σ k j v k = upd (σ k) j v := if_pos rfl
theorem ojW_ne {σ : ojS} {k k' : Nat} {f : Nat → Int32} (h : k' ≠ k) : ojW σ k f k' = σ k' := if_neg h
theorem ojW_eq {σ : ojS} {k : Nat} {f : Nat → Int32} : ojW σ k f k = f := if_pos rfl
theorem upd_eq {f : Nat → Int32} {j : Nat} {v : Int32} : upd f j v j = v := if_pos rfl
theorem upd_ne {f : Nat → Int32} {j j' : Nat} {v : Int32} (h : j' ≠ j) : upd f j v j' = f j' := if_neg h
theorem nar_1 : vp_nar .boolean 1 = 1 := by decide
theorem nar_0 : vp_nar .boolean 0 = 0 := by decide
def nsum (f : Nat → Nat) : Nat → Nat
  | 0 => 0
  | n + 1 => nsum f n + f n
def isum (f : Nat → Int32) : Nat → Int32
  | 0 => 0
  | n + 1 => isum f n + f n
theorem nsum_congr {f g : Nat → Nat} : ∀ {n : Nat}, (∀ k, k < n → f k = g k) → nsum f n = nsum g n
  | 0, _ => rfl
  | n + 1, h => by rw [nsum, nsum, nsum_congr (fun k hk => h k (by omega)), h n (by omega)]
theorem isum_congr {f g : Nat → Int32} : ∀ {n : Nat}, (∀ k, k < n → f k = g k) → isum f n = isum g n
  | 0, _ => rfl
  | n + 1, h => by rw [isum, isum, isum_congr (fun k hk => h k (by omega)), h n (by omega)]
theorem nsum_le {f g : Nat → Nat} : ∀ {n : Nat}, (∀ k, k < n → f k ≤ g k) → nsum f n ≤ nsum g n
  | 0, _ => Nat.le_refl _
  | n + 1, h => by
    rw [nsum, nsum]
    exact Nat.add_le_add (nsum_le (fun k hk => h k (by omega))) (h n (by omega))
theorem nsum_ge {f : Nat → Nat} : ∀ {n k : Nat}, k < n → f k ≤ nsum f n
  | n + 1, k, h => by
    rw [nsum]
    by_cases hk : k = n
    · subst hk; omega
    · have := nsum_ge (f := f) (n := n) (k := k) (by omega); omega
theorem nsum_zero {f : Nat → Nat} {n : Nat} (h : ∀ k, k < n → f k = 0) : nsum f n = 0 := by
  induction n with
  | zero => rfl
  | succ n ih => rw [nsum, ih (fun k hk => h k (by omega)), h n (by omega)]
theorem nsum_add {f g : Nat → Nat} : ∀ {n : Nat}, nsum (fun k => f k + g k) n = nsum f n + nsum g n
  | 0 => rfl
  | n + 1 => by simp only [nsum]; rw [nsum_add]; omega
theorem nsum_swap {f : Nat → Nat → Nat} {m : Nat} : ∀ {n : Nat}, nsum (fun x => nsum (fun y => f x y) m) n = nsum (fun y => nsum (fun x => f x y) n) m
  | 0 => (nsum_zero (fun _ _ => rfl)).symm
  | n + 1 => by
    rw [nsum, nsum_swap, ← nsum_add]
    exact nsum_congr (fun k _ => rfl)
theorem nsum_one {f : Nat → Nat} {a : Nat} {v : Nat} : ∀ {n : Nat}, nsum (fun x => if a = x then v else 0) n = if a < n then v else 0
  | 0 => by simp [nsum]
  | n + 1 => by
    rw [nsum, nsum_one (f := f)]
    by_cases h1 : a < n
    · rw [if_pos h1, if_neg (by omega), if_pos (by omega)]; rfl
    · by_cases h2 : a = n
      · rw [if_neg h1, if_pos h2, if_pos (by omega)]; omega
      · rw [if_neg h1, if_neg h2, if_neg (by omega)]
theorem isum_nI {f : Nat → Nat} : ∀ {n : Nat}, isum (fun k => nI (f k)) n = nI (nsum f n)
  | 0 => rfl
  | n + 1 => by rw [isum, isum_nI, nsum, nI_add]
theorem isum_shift {f : Nat → Int32} : ∀ {n : Nat}, isum f (n + 1) = f 0 + isum (fun k => f (k + 1)) n
  | 0 => by simp only [isum]; rw [Int32.zero_add, Int32.add_zero]
  | n + 1 => by
    rw [isum, isum_shift, isum, Int32.add_assoc]
theorem isum_rev {f : Nat → Int32} : ∀ {n : Nat}, isum (fun k => f (n - 1 - k)) n = isum f n
  | 0 => rfl
  | n + 1 => by
    rw [isum_shift, isum]
    rw [isum_congr (g := fun k => f (n - 1 - k)) (fun k hk => by show f (n + 1 - 1 - (k + 1)) = _; rw [show n + 1 - 1 - (k + 1) = n - 1 - k by omega])]
    rw [isum_rev, Int32.add_comm]
    rfl
theorem isum_add {f g : Nat → Int32} : ∀ {n : Nat}, isum (fun k => f k + g k) n = isum f n + isum g n
  | 0 => rfl
  | n + 1 => by
    simp only [isum]; rw [isum_add]
    rw [Int32.add_assoc, Int32.add_assoc, ← Int32.add_assoc (f n), Int32.add_comm (f n) (isum g n), Int32.add_assoc]
theorem in_cases (a : Int32) (lo hi : Nat) (h1 : hi < 2 ^ 31) (h2 : lo < 2 ^ 31) : f_X9_in a (nI lo) (nI hi) = some 0 ∨ ∃ v : Nat, lo ≤ v ∧ v ≤ hi ∧ a = nI v ∧ f_X9_in a (nI lo) (nI hi) = some 1 := by
  unfold f_X9_in
  by_cases h3 : a < nI lo
  · exact Or.inl (if_pos h3)
  · rw [if_neg h3]
    by_cases h4 : nI hi < a
    · exact Or.inl (if_pos h4)
    · rw [if_neg h4]
      have h5 : ¬ a < 0 := fun h => h3 (by
        rw [Int32.lt_iff_toInt_lt] at h ⊢
        rw [nI_toInt h2]
        have : (0 : Int32).toInt = 0 := rfl
        omega)
      obtain ⟨j, hj, rfl⟩ := nI_of h5
      refine Or.inr ⟨j, ?_, ?_, rfl, rfl⟩
      · rw [nI_ltI hj h2] at h3; omega
      · rw [nI_ltI h1 hj] at h4; omega
theorem isWithin_eq (a b c : Int32) : f_X8_isWithin a b c = f_X9_in a b c := rfl
theorem isCell_eq (a : Int32) : f_X9_isCell a = f_X9_in a 0 95 := by
  unfold f_X9_isCell
  rcases in_cases a 0 95 (by decide) (by decide) with h | ⟨v, -, -, -, h⟩
  · rw [show f_X9_in a 0 95 = some 0 from h]; rfl
  · rw [show f_X9_in a 0 95 = some 1 from h]; rfl
theorem cell_cases (a : Int32) : (f_X2_isCell a = some 0 ∧ f_X9_isCell a = some 0) ∨ ∃ v : Nat, v < 96 ∧ a = nI v ∧ f_X2_isCell a = some 1 ∧ f_X9_isCell a = some 1 := by
  have e : f_X2_isCell a = f_X9_in a 0 95 := by
    unfold f_X2_isCell f_X9_in
    by_cases h : a < 0
    · rw [if_pos h, if_pos h]
    · rw [if_neg h, if_neg h]
      obtain ⟨j, hj, rfl⟩ := nI_of h
      by_cases h2 : 96 ≤ j
      · rw [if_pos (show (96 : Int32) ≤ nI j from (nI_leI (a := 96) (by decide) hj).mpr h2), if_pos (show (95 : Int32) < nI j from (nI_ltI (a := 95) (by decide) hj).mpr (by omega))]
      · rw [if_neg (show ¬ (96 : Int32) ≤ nI j from fun h => h2 ((nI_leI (a := 96) (by decide) hj).mp h)), if_neg (show ¬ (95 : Int32) < nI j from fun h => h2 ((nI_ltI (a := 95) (by decide) hj).mp h))]
  rw [isCell_eq, e]
  rcases in_cases a 0 95 (by decide) (by decide) with h | ⟨v, h1, h2, h3, h4⟩
  · exact Or.inl ⟨h, h⟩
  · exact Or.inr ⟨v, by omega, h3, h4, h4⟩
theorem has_eq (a : Int32) (σ : ojS) (K : Nat) (hK : K ≤ 4) (h : σ 9 1 = nI K) : (f_X1_has a σ = some 0 ∧ ∀ τ : ojS, τ 0 14 = nI K → f_X9_isSkimmer a τ = some 0) ∨ ∃ v : Nat, v < K ∧ a = nI v ∧ f_X1_has a σ = some 1 ∧ ∀ τ : ojS, τ 0 14 = nI K → f_X9_isSkimmer a τ = some 1 := by
  unfold f_X1_has f_X9_isSkimmer f_X9_in
  rw [h]
  by_cases h1 : a < 0
  · refine Or.inl ⟨by rw [if_pos h1], fun τ e => by rw [if_pos h1]; rfl⟩
  · obtain ⟨j, hj, rfl⟩ := nI_of h1
    by_cases h2 : K ≤ j
    · refine Or.inl ⟨by rw [if_neg h1, if_pos ((nI_leI (by omega) hj).mpr h2)], fun τ e => ?_⟩
      rw [if_neg h1, e, if_pos ?_]
      · rfl
      · by_cases hK0 : K = 0
        · subst hK0
          rw [Int32.lt_iff_toInt_lt, nI_toInt hj]
          have : (nI 0 - 1).toInt = -1 := by decide
          omega
        · rw [show nI K - 1 = nI (K - 1) from by rw [show (1 : Int32) = nI 1 from rfl, pk_sub (by omega)], nI_ltI (by omega) hj]
          omega
    · refine Or.inr ⟨j, by omega, rfl, by rw [if_neg h1, if_neg (fun q => h2 ((nI_leI (by omega) hj).mp q))], fun τ e => ?_⟩
      rw [if_neg h1, e, show nI K - 1 = nI (K - 1) from by rw [show (1 : Int32) = nI 1 from rfl, pk_sub (by omega)], if_neg (fun q => by rw [nI_ltI (by omega) hj] at q; omega)]
      rfl
/-! the net -/
def ah (c w : Nat) : Nat := if w = 1 then (if c < 12 then 96 else c - 12) else if w = 2 then (if c % 12 = 11 then 96 else c + 1) else if w = 3 then (if 84 ≤ c then 96 else c + 12) else if w = 4 then (if c % 12 = 0 then 96 else c - 1) else 96
def aI (c w : Nat) : Int32 := if ah c w < 96 then nI (ah c w) else -1
def pw (w t : Nat) : Nat := if w = 2 ∨ w = 3 then 95 - t else t
theorem ahead_eq : ∀ c, c < 96 → ∀ w, w < 5 → f_X2_ahead (nI c) (nI w) = some (aI c w) := by decide +kernel
theorem step_eq : ∀ c, c < 96 → ∀ w, w < 5 → w ≠ 0 → f_X9_step (nI c) (nI w) = some (aI c w) := by decide +kernel
theorem ah_lt : ∀ c, c < 96 → ∀ w, w < 5 → ah c w ≤ 96 := by decide +kernel
theorem ah_ne : ∀ c, c < 96 → ∀ w, w < 5 → ah c w ≠ c := by decide +kernel
theorem ah_inj : ∀ w, w < 5 → ∀ c, c < 96 → ∀ d, d < 96 → ah c w < 96 → ah c w = ah d w → c = d := by decide +kernel
theorem turn_eq : ∀ t, t < 96 → ∀ w, w < 5 → f_X8_cellAtTurn (nI t) (nI w) = some (nI (pw w t)) := by decide +kernel
theorem pw_lt : ∀ w t, t < 96 → pw w t < 96 := fun w t h => by unfold pw; split <;> omega
theorem pw_inj : ∀ w t u, t < 96 → u < 96 → pw w t = pw w u → t = u := fun w t u h1 h2 h => by unfold pw at h; split at h <;> omega
theorem ah_turn : ∀ w, w < 5 → ∀ t, t < 96 → ∀ u, u < 96 → u ≤ t → ah (pw w u) w ≠ pw w t := by decide +kernel
