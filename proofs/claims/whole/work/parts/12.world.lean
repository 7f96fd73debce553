abbrev ojE : Type := ClassId × ClassId × ClassId × ClassId × ClassId
def ojTy (E : ojE) : List (ClassId × FieldType) := [(E.1, .int), (E.2.1, .boolean), (E.2.2.1, .object "OilWatch$Ship"), (E.2.2.2.1, .object "OilWatch$Skimmer"), (E.2.2.2.2, .object "OilWatch$Slick")]
theorem oj_range {β : Type} (g g2 : Nat → β) (N k : Nat) (y : β) (h1 : g2 k = y) (h2 : ∀ i, i ≠ k → g2 i = g i) : ((List.range N).map g).set k y = (List.range N).map g2 := by
  apply List.ext_getElem?
  intro i
  rw [List.getElem?_set]
  simp only [List.length_map, List.length_range, List.getElem?_map]
  by_cases hi : k = i
  · subst hi
    by_cases hk : k < N
    · simp [hk, h1]
    · simp [hk]
  · rw [if_neg hi]
    by_cases hk : i < N
    · simp [hk, h2 i (fun h => hi h.symm)]
    · simp [hk]
def eO_cell (E : ojE) (ad : Nat → Nat) (k : Nat) (f : Nat → Int32) : va_E := match k with
  | 0 => .inr (8, [.ref (ad 1), .ref (ad 3), .ref (ad 7), .ref (ad 9), .ref (ad (19 + 0)), .ref (ad 11), .ref (ad 12), .ref (ad 13), .ref (ad 14), .int (f 9), .int (f 10), .int (f 11), .int (f 12), .int (f 13)])
  | 1 => .inr (2, [.ref (ad 2)])
  | 2 => .inl (E.1, 96, .inl (f))
  | 3 => .inr (0, [.ref (ad 4), .ref (ad 5), .ref (ad 6), .int (f 3)])
  | 4 => .inl (E.1, 20, .inl (f))
  | 5 => .inl (E.1, 20, .inl (f))
  | 6 => .inl (E.1, 480, .inl (f))
  | 7 => .inr (6, [.ref (ad 8)])
  | 8 => .inl (E.1, 1503, .inl (f))
  | 9 => .inr (1, [.ref (ad 10), .int (f 1)])
  | 10 => .inl (E.2.2.2.1, 4, .inr (.inr (.inr (.inr (fun j => some (ad (15 + j)))))))
  | 11 => .inl (E.2.2.2.2, 3, .inr (.inr (.inr (.inr (fun j => some (ad (19 + (1 + j))))))))
  | 12 => .inr (3, [.int (f 0), .int (f 1), .int (f 2), .int (f 3), .int (f 4)])
  | 13 => .inl (E.2.2.1, 8, .inr (.inr (.inr (.inr (fun j => some (ad (31 + j)))))))
  | 14 => .inl (E.1, 4, .inl (f))
  | k => if k < 19 then .inr (5, [.int (f 0), .int (f 1), .int (f 2), .int (f 3), .int (f 4), .int (f 5)]) else if k < 23 then .inr (7, [.ref (ad (23 + (k - 19))), .ref (ad (27 + (k - 19))), .int (f 2), .int (f 3)]) else if k < 27 then .inl (E.1, 96, .inl (f)) else if k < 31 then .inl (E.1, 4, .inl (f)) else if k < 39 then .inr (4, [.int (f 0), .int (f 1), .ref (ad (39 + (k - 31)))]) else .inl (E.2.1, 96, .inl (f))
def wO_ (E : ojE) (ad : Nat → Nat) (σ : ojS) : va_W := (List.range 47).map (fun k => (ad k, eO_cell E ad k (σ k)))
def vO_ (l : Launch) (D : va_G) (E : ojE) (ad : Nat → Nat) : ojV := (l, D, ojTy E, wO_ E ad)
theorem wO_at {E : ojE} {ad : Nat → Nat} {σ : ojS} {k : Nat} (h : k < 47) : (wO_ E ad σ)[k]? = some (ad k, eO_cell E ad k (σ k)) := by simp [wO_, h]
theorem wO_set {E : ojE} {ad : Nat → Nat} {σ : ojS} (k : Nat) (f : Nat → Int32) : (wO_ E ad σ).set k (ad k, eO_cell E ad k f) = wO_ E ad (ojW σ k f) := oj_range _ _ 47 k _ (by simp [ojW]) (fun i hi => by simp [ojW, hi])
theorem oC_OilWatch {l : Launch} {D : va_G} {E : ojE} {ad : Nat → Nat} {σ : ojS} : ((vO_ l D E ad).2.2.2 σ)[0]? = some (ad 0, .inr (8, [.ref (ad 1), .ref (ad 3), .ref (ad 7), .ref (ad 9), .ref (ad (19 + 0)), .ref (ad 11), .ref (ad 12), .ref (ad 13), .ref (ad 14), .int (σ 0 9), .int (σ 0 10), .int (σ 0 11), .int (σ 0 12), .int (σ 0 13)])) := wO_at (by decide)
theorem oC_OilWatch_s9 {l : Launch} {D : va_G} {E : ojE} {ad : Nat → Nat} {σ : ojS} (v : Int32) : ((vO_ l D E ad).2.2.2 σ).set 0 (ad 0, .inr (8, ([.ref (ad 1), .ref (ad 3), .ref (ad 7), .ref (ad 9), .ref (ad (19 + 0)), .ref (ad 11), .ref (ad 12), .ref (ad 13), .ref (ad 14), .int (σ 0 9), .int (σ 0 10), .int (σ 0 11), .int (σ 0 12), .int (σ 0 13)] : List Value).set 9 (.int v))) = (vO_ l D E ad).2.2.2 (ojU σ 0 9 v) := wO_set 0 (upd (σ 0) 9 v)
theorem oC_OilWatch_s10 {l : Launch} {D : va_G} {E : ojE} {ad : Nat → Nat} {σ : ojS} (v : Int32) : ((vO_ l D E ad).2.2.2 σ).set 0 (ad 0, .inr (8, ([.ref (ad 1), .ref (ad 3), .ref (ad 7), .ref (ad 9), .ref (ad (19 + 0)), .ref (ad 11), .ref (ad 12), .ref (ad 13), .ref (ad 14), .int (σ 0 9), .int (σ 0 10), .int (σ 0 11), .int (σ 0 12), .int (σ 0 13)] : List Value).set 10 (.int v))) = (vO_ l D E ad).2.2.2 (ojU σ 0 10 v) := wO_set 0 (upd (σ 0) 10 v)
theorem oC_OilWatch_s11 {l : Launch} {D : va_G} {E : ojE} {ad : Nat → Nat} {σ : ojS} (v : Int32) : ((vO_ l D E ad).2.2.2 σ).set 0 (ad 0, .inr (8, ([.ref (ad 1), .ref (ad 3), .ref (ad 7), .ref (ad 9), .ref (ad (19 + 0)), .ref (ad 11), .ref (ad 12), .ref (ad 13), .ref (ad 14), .int (σ 0 9), .int (σ 0 10), .int (σ 0 11), .int (σ 0 12), .int (σ 0 13)] : List Value).set 11 (.int v))) = (vO_ l D E ad).2.2.2 (ojU σ 0 11 v) := wO_set 0 (upd (σ 0) 11 v)
theorem oC_OilWatch_s12 {l : Launch} {D : va_G} {E : ojE} {ad : Nat → Nat} {σ : ojS} (v : Int32) : ((vO_ l D E ad).2.2.2 σ).set 0 (ad 0, .inr (8, ([.ref (ad 1), .ref (ad 3), .ref (ad 7), .ref (ad 9), .ref (ad (19 + 0)), .ref (ad 11), .ref (ad 12), .ref (ad 13), .ref (ad 14), .int (σ 0 9), .int (σ 0 10), .int (σ 0 11), .int (σ 0 12), .int (σ 0 13)] : List Value).set 12 (.int v))) = (vO_ l D E ad).2.2.2 (ojU σ 0 12 v) := wO_set 0 (upd (σ 0) 12 v)
theorem oC_OilWatch_s13 {l : Launch} {D : va_G} {E : ojE} {ad : Nat → Nat} {σ : ojS} (v : Int32) : ((vO_ l D E ad).2.2.2 σ).set 0 (ad 0, .inr (8, ([.ref (ad 1), .ref (ad 3), .ref (ad 7), .ref (ad 9), .ref (ad (19 + 0)), .ref (ad 11), .ref (ad 12), .ref (ad 13), .ref (ad 14), .int (σ 0 9), .int (σ 0 10), .int (σ 0 11), .int (σ 0 12), .int (σ 0 13)] : List Value).set 13 (.int v))) = (vO_ l D E ad).2.2.2 (ojU σ 0 13 v) := wO_set 0 (upd (σ 0) 13 v)
theorem oC_Net {l : Launch} {D : va_G} {E : ojE} {ad : Nat → Nat} {σ : ojS} : ((vO_ l D E ad).2.2.2 σ)[1]? = some (ad 1, .inr (2, [.ref (ad 2)])) := wO_at (by decide)
theorem oC_ranks {l : Launch} {D : va_G} {E : ojE} {ad : Nat → Nat} {σ : ojS} : ((vO_ l D E ad).2.2.2 σ)[2]? = some (ad 2, .inl (E.1, 96, .inl (σ 2))) := wO_at (by decide)
theorem oC_ranks_s {l : Launch} {D : va_G} {E : ojE} {ad : Nat → Nat} {σ : ojS} (f : Nat → Int32) : ((vO_ l D E ad).2.2.2 σ).set 2 (ad 2, .inl (E.1, 96, .inl f)) = (vO_ l D E ad).2.2.2 (ojW σ 2 f) := wO_set 2 f
theorem oC_Booms {l : Launch} {D : va_G} {E : ojE} {ad : Nat → Nat} {σ : ojS} : ((vO_ l D E ad).2.2.2 σ)[3]? = some (ad 3, .inr (0, [.ref (ad 4), .ref (ad 5), .ref (ad 6), .int (σ 3 3)])) := wO_at (by decide)
theorem oC_Booms_s3 {l : Launch} {D : va_G} {E : ojE} {ad : Nat → Nat} {σ : ojS} (v : Int32) : ((vO_ l D E ad).2.2.2 σ).set 3 (ad 3, .inr (0, ([.ref (ad 4), .ref (ad 5), .ref (ad 6), .int (σ 3 3)] : List Value).set 3 (.int v))) = (vO_ l D E ad).2.2.2 (ojU σ 3 3 v) := wO_set 3 (upd (σ 3) 3 v)
theorem oC_bcells {l : Launch} {D : va_G} {E : ojE} {ad : Nat → Nat} {σ : ojS} : ((vO_ l D E ad).2.2.2 σ)[4]? = some (ad 4, .inl (E.1, 20, .inl (σ 4))) := wO_at (by decide)
theorem oC_bcells_s {l : Launch} {D : va_G} {E : ojE} {ad : Nat → Nat} {σ : ojS} (f : Nat → Int32) : ((vO_ l D E ad).2.2.2 σ).set 4 (ad 4, .inl (E.1, 20, .inl f)) = (vO_ l D E ad).2.2.2 (ojW σ 4 f) := wO_set 4 f
theorem oC_bways {l : Launch} {D : va_G} {E : ojE} {ad : Nat → Nat} {σ : ojS} : ((vO_ l D E ad).2.2.2 σ)[5]? = some (ad 5, .inl (E.1, 20, .inl (σ 5))) := wO_at (by decide)
theorem oC_bways_s {l : Launch} {D : va_G} {E : ojE} {ad : Nat → Nat} {σ : ojS} (f : Nat → Int32) : ((vO_ l D E ad).2.2.2 σ).set 5 (ad 5, .inl (E.1, 20, .inl f)) = (vO_ l D E ad).2.2.2 (ojW σ 5 f) := wO_set 5 f
theorem oC_blimits {l : Launch} {D : va_G} {E : ojE} {ad : Nat → Nat} {σ : ojS} : ((vO_ l D E ad).2.2.2 σ)[6]? = some (ad 6, .inl (E.1, 480, .inl (σ 6))) := wO_at (by decide)
theorem oC_blimits_s {l : Launch} {D : va_G} {E : ojE} {ad : Nat → Nat} {σ : ojS} (f : Nat → Int32) : ((vO_ l D E ad).2.2.2 σ).set 6 (ad 6, .inl (E.1, 480, .inl f)) = (vO_ l D E ad).2.2.2 (ojW σ 6 f) := wO_set 6 f
theorem oC_Sky {l : Launch} {D : va_G} {E : ojE} {ad : Nat → Nat} {σ : ojS} : ((vO_ l D E ad).2.2.2 σ)[7]? = some (ad 7, .inr (6, [.ref (ad 8)])) := wO_at (by decide)
theorem oC_packed {l : Launch} {D : va_G} {E : ojE} {ad : Nat → Nat} {σ : ojS} : ((vO_ l D E ad).2.2.2 σ)[8]? = some (ad 8, .inl (E.1, 1503, .inl (σ 8))) := wO_at (by decide)
theorem oC_packed_s {l : Launch} {D : va_G} {E : ojE} {ad : Nat → Nat} {σ : ojS} (f : Nat → Int32) : ((vO_ l D E ad).2.2.2 σ).set 8 (ad 8, .inl (E.1, 1503, .inl f)) = (vO_ l D E ad).2.2.2 (ojW σ 8 f) := wO_set 8 f
theorem oC_Fleet {l : Launch} {D : va_G} {E : ojE} {ad : Nat → Nat} {σ : ojS} : ((vO_ l D E ad).2.2.2 σ)[9]? = some (ad 9, .inr (1, [.ref (ad 10), .int (σ 9 1)])) := wO_at (by decide)
theorem oC_Fleet_s1 {l : Launch} {D : va_G} {E : ojE} {ad : Nat → Nat} {σ : ojS} (v : Int32) : ((vO_ l D E ad).2.2.2 σ).set 9 (ad 9, .inr (1, ([.ref (ad 10), .int (σ 9 1)] : List Value).set 1 (.int v))) = (vO_ l D E ad).2.2.2 (ojU σ 9 1 v) := wO_set 9 (upd (σ 9) 1 v)
theorem oC_skimmers {l : Launch} {D : va_G} {E : ojE} {ad : Nat → Nat} {σ : ojS} : ((vO_ l D E ad).2.2.2 σ)[10]? = some (ad 10, .inl (E.2.2.2.1, 4, .inr (.inr (.inr (.inr (fun j => some (ad (15 + j)))))))) := wO_at (by decide)
theorem oC_trials {l : Launch} {D : va_G} {E : ojE} {ad : Nat → Nat} {σ : ojS} : ((vO_ l D E ad).2.2.2 σ)[11]? = some (ad 11, .inl (E.2.2.2.2, 3, .inr (.inr (.inr (.inr (fun j => some (ad (19 + (1 + j))))))))) := wO_at (by decide)
theorem oC_Outing {l : Launch} {D : va_G} {E : ojE} {ad : Nat → Nat} {σ : ojS} : ((vO_ l D E ad).2.2.2 σ)[12]? = some (ad 12, .inr (3, [.int (σ 12 0), .int (σ 12 1), .int (σ 12 2), .int (σ 12 3), .int (σ 12 4)])) := wO_at (by decide)
theorem oC_Outing_s0 {l : Launch} {D : va_G} {E : ojE} {ad : Nat → Nat} {σ : ojS} (v : Int32) : ((vO_ l D E ad).2.2.2 σ).set 12 (ad 12, .inr (3, ([.int (σ 12 0), .int (σ 12 1), .int (σ 12 2), .int (σ 12 3), .int (σ 12 4)] : List Value).set 0 (.int v))) = (vO_ l D E ad).2.2.2 (ojU σ 12 0 v) := wO_set 12 (upd (σ 12) 0 v)
theorem oC_Outing_s1 {l : Launch} {D : va_G} {E : ojE} {ad : Nat → Nat} {σ : ojS} (v : Int32) : ((vO_ l D E ad).2.2.2 σ).set 12 (ad 12, .inr (3, ([.int (σ 12 0), .int (σ 12 1), .int (σ 12 2), .int (σ 12 3), .int (σ 12 4)] : List Value).set 1 (.int v))) = (vO_ l D E ad).2.2.2 (ojU σ 12 1 v) := wO_set 12 (upd (σ 12) 1 v)
theorem oC_Outing_s2 {l : Launch} {D : va_G} {E : ojE} {ad : Nat → Nat} {σ : ojS} (v : Int32) : ((vO_ l D E ad).2.2.2 σ).set 12 (ad 12, .inr (3, ([.int (σ 12 0), .int (σ 12 1), .int (σ 12 2), .int (σ 12 3), .int (σ 12 4)] : List Value).set 2 (.int v))) = (vO_ l D E ad).2.2.2 (ojU σ 12 2 v) := wO_set 12 (upd (σ 12) 2 v)
theorem oC_Outing_s3 {l : Launch} {D : va_G} {E : ojE} {ad : Nat → Nat} {σ : ojS} (v : Int32) : ((vO_ l D E ad).2.2.2 σ).set 12 (ad 12, .inr (3, ([.int (σ 12 0), .int (σ 12 1), .int (σ 12 2), .int (σ 12 3), .int (σ 12 4)] : List Value).set 3 (.int v))) = (vO_ l D E ad).2.2.2 (ojU σ 12 3 v) := wO_set 12 (upd (σ 12) 3 v)
theorem oC_Outing_s4 {l : Launch} {D : va_G} {E : ojE} {ad : Nat → Nat} {σ : ojS} (v : Int32) : ((vO_ l D E ad).2.2.2 σ).set 12 (ad 12, .inr (3, ([.int (σ 12 0), .int (σ 12 1), .int (σ 12 2), .int (σ 12 3), .int (σ 12 4)] : List Value).set 4 (.int v))) = (vO_ l D E ad).2.2.2 (ojU σ 12 4 v) := wO_set 12 (upd (σ 12) 4 v)
theorem oC_ships {l : Launch} {D : va_G} {E : ojE} {ad : Nat → Nat} {σ : ojS} : ((vO_ l D E ad).2.2.2 σ)[13]? = some (ad 13, .inl (E.2.2.1, 8, .inr (.inr (.inr (.inr (fun j => some (ad (31 + j)))))))) := wO_at (by decide)
theorem oC_partsOf {l : Launch} {D : va_G} {E : ojE} {ad : Nat → Nat} {σ : ojS} : ((vO_ l D E ad).2.2.2 σ)[14]? = some (ad 14, .inl (E.1, 4, .inl (σ 14))) := wO_at (by decide)
theorem oC_partsOf_s {l : Launch} {D : va_G} {E : ojE} {ad : Nat → Nat} {σ : ojS} (f : Nat → Int32) : ((vO_ l D E ad).2.2.2 σ).set 14 (ad 14, .inl (E.1, 4, .inl f)) = (vO_ l D E ad).2.2.2 (ojW σ 14 f) := wO_set 14 f
theorem oC_Skimmer {l : Launch} {D : va_G} {E : ojE} {ad : Nat → Nat} {σ : ojS} : ∀ {i : Nat} (_ : i < 4), ((vO_ l D E ad).2.2.2 σ)[15 + i]? = some (ad (15 + i), .inr (5, [.int (σ (15 + i) 0), .int (σ (15 + i) 1), .int (σ (15 + i) 2), .int (σ (15 + i) 3), .int (σ (15 + i) 4), .int (σ (15 + i) 5)]))
  | 0, _ => wO_at (by decide)
  | 1, _ => wO_at (by decide)
  | 2, _ => wO_at (by decide)
  | 3, _ => wO_at (by decide)
  | _ + 4, h => absurd h (by omega)
theorem oC_Skimmer_s0 {l : Launch} {D : va_G} {E : ojE} {ad : Nat → Nat} {σ : ojS} : ∀ {i : Nat} (_ : i < 4) (v : Int32), ((vO_ l D E ad).2.2.2 σ).set (15 + i) (ad (15 + i), .inr (5, ([.int (σ (15 + i) 0), .int (σ (15 + i) 1), .int (σ (15 + i) 2), .int (σ (15 + i) 3), .int (σ (15 + i) 4), .int (σ (15 + i) 5)] : List Value).set 0 (.int v))) = (vO_ l D E ad).2.2.2 (ojU σ (15 + i) 0 v)
  | 0, _, v => wO_set 15 (upd (σ 15) 0 v)
  | 1, _, v => wO_set 16 (upd (σ 16) 0 v)
  | 2, _, v => wO_set 17 (upd (σ 17) 0 v)
  | 3, _, v => wO_set 18 (upd (σ 18) 0 v)
  | _ + 4, h, _ => absurd h (by omega)
theorem oC_Skimmer_s1 {l : Launch} {D : va_G} {E : ojE} {ad : Nat → Nat} {σ : ojS} : ∀ {i : Nat} (_ : i < 4) (v : Int32), ((vO_ l D E ad).2.2.2 σ).set (15 + i) (ad (15 + i), .inr (5, ([.int (σ (15 + i) 0), .int (σ (15 + i) 1), .int (σ (15 + i) 2), .int (σ (15 + i) 3), .int (σ (15 + i) 4), .int (σ (15 + i) 5)] : List Value).set 1 (.int v))) = (vO_ l D E ad).2.2.2 (ojU σ (15 + i) 1 v)
  | 0, _, v => wO_set 15 (upd (σ 15) 1 v)
  | 1, _, v => wO_set 16 (upd (σ 16) 1 v)
  | 2, _, v => wO_set 17 (upd (σ 17) 1 v)
  | 3, _, v => wO_set 18 (upd (σ 18) 1 v)
  | _ + 4, h, _ => absurd h (by omega)
theorem oC_Skimmer_s2 {l : Launch} {D : va_G} {E : ojE} {ad : Nat → Nat} {σ : ojS} : ∀ {i : Nat} (_ : i < 4) (v : Int32), ((vO_ l D E ad).2.2.2 σ).set (15 + i) (ad (15 + i), .inr (5, ([.int (σ (15 + i) 0), .int (σ (15 + i) 1), .int (σ (15 + i) 2), .int (σ (15 + i) 3), .int (σ (15 + i) 4), .int (σ (15 + i) 5)] : List Value).set 2 (.int v))) = (vO_ l D E ad).2.2.2 (ojU σ (15 + i) 2 v)
  | 0, _, v => wO_set 15 (upd (σ 15) 2 v)
  | 1, _, v => wO_set 16 (upd (σ 16) 2 v)
  | 2, _, v => wO_set 17 (upd (σ 17) 2 v)
  | 3, _, v => wO_set 18 (upd (σ 18) 2 v)
  | _ + 4, h, _ => absurd h (by omega)
theorem oC_Skimmer_s3 {l : Launch} {D : va_G} {E : ojE} {ad : Nat → Nat} {σ : ojS} : ∀ {i : Nat} (_ : i < 4) (v : Int32), ((vO_ l D E ad).2.2.2 σ).set (15 + i) (ad (15 + i), .inr (5, ([.int (σ (15 + i) 0), .int (σ (15 + i) 1), .int (σ (15 + i) 2), .int (σ (15 + i) 3), .int (σ (15 + i) 4), .int (σ (15 + i) 5)] : List Value).set 3 (.int v))) = (vO_ l D E ad).2.2.2 (ojU σ (15 + i) 3 v)
  | 0, _, v => wO_set 15 (upd (σ 15) 3 v)
  | 1, _, v => wO_set 16 (upd (σ 16) 3 v)
  | 2, _, v => wO_set 17 (upd (σ 17) 3 v)
  | 3, _, v => wO_set 18 (upd (σ 18) 3 v)
  | _ + 4, h, _ => absurd h (by omega)
theorem oC_Skimmer_s4 {l : Launch} {D : va_G} {E : ojE} {ad : Nat → Nat} {σ : ojS} : ∀ {i : Nat} (_ : i < 4) (v : Int32), ((vO_ l D E ad).2.2.2 σ).set (15 + i) (ad (15 + i), .inr (5, ([.int (σ (15 + i) 0), .int (σ (15 + i) 1), .int (σ (15 + i) 2), .int (σ (15 + i) 3), .int (σ (15 + i) 4), .int (σ (15 + i) 5)] : List Value).set 4 (.int v))) = (vO_ l D E ad).2.2.2 (ojU σ (15 + i) 4 v)
  | 0, _, v => wO_set 15 (upd (σ 15) 4 v)
  | 1, _, v => wO_set 16 (upd (σ 16) 4 v)
  | 2, _, v => wO_set 17 (upd (σ 17) 4 v)
  | 3, _, v => wO_set 18 (upd (σ 18) 4 v)
  | _ + 4, h, _ => absurd h (by omega)
theorem oC_Skimmer_s5 {l : Launch} {D : va_G} {E : ojE} {ad : Nat → Nat} {σ : ojS} : ∀ {i : Nat} (_ : i < 4) (v : Int32), ((vO_ l D E ad).2.2.2 σ).set (15 + i) (ad (15 + i), .inr (5, ([.int (σ (15 + i) 0), .int (σ (15 + i) 1), .int (σ (15 + i) 2), .int (σ (15 + i) 3), .int (σ (15 + i) 4), .int (σ (15 + i) 5)] : List Value).set 5 (.int v))) = (vO_ l D E ad).2.2.2 (ojU σ (15 + i) 5 v)
  | 0, _, v => wO_set 15 (upd (σ 15) 5 v)
  | 1, _, v => wO_set 16 (upd (σ 16) 5 v)
  | 2, _, v => wO_set 17 (upd (σ 17) 5 v)
  | 3, _, v => wO_set 18 (upd (σ 18) 5 v)
  | _ + 4, h, _ => absurd h (by omega)
theorem oC_Slick {l : Launch} {D : va_G} {E : ojE} {ad : Nat → Nat} {σ : ojS} : ∀ {i : Nat} (_ : i < 4), ((vO_ l D E ad).2.2.2 σ)[19 + i]? = some (ad (19 + i), .inr (7, [.ref (ad (23 + i)), .ref (ad (27 + i)), .int (σ (19 + i) 2), .int (σ (19 + i) 3)]))
  | 0, _ => wO_at (by decide)
  | 1, _ => wO_at (by decide)
  | 2, _ => wO_at (by decide)
  | 3, _ => wO_at (by decide)
  | _ + 4, h => absurd h (by omega)
theorem oC_Slick_s2 {l : Launch} {D : va_G} {E : ojE} {ad : Nat → Nat} {σ : ojS} : ∀ {i : Nat} (_ : i < 4) (v : Int32), ((vO_ l D E ad).2.2.2 σ).set (19 + i) (ad (19 + i), .inr (7, ([.ref (ad (23 + i)), .ref (ad (27 + i)), .int (σ (19 + i) 2), .int (σ (19 + i) 3)] : List Value).set 2 (.int v))) = (vO_ l D E ad).2.2.2 (ojU σ (19 + i) 2 v)
  | 0, _, v => wO_set 19 (upd (σ 19) 2 v)
  | 1, _, v => wO_set 20 (upd (σ 20) 2 v)
  | 2, _, v => wO_set 21 (upd (σ 21) 2 v)
  | 3, _, v => wO_set 22 (upd (σ 22) 2 v)
  | _ + 4, h, _ => absurd h (by omega)
theorem oC_Slick_s3 {l : Launch} {D : va_G} {E : ojE} {ad : Nat → Nat} {σ : ojS} : ∀ {i : Nat} (_ : i < 4) (v : Int32), ((vO_ l D E ad).2.2.2 σ).set (19 + i) (ad (19 + i), .inr (7, ([.ref (ad (23 + i)), .ref (ad (27 + i)), .int (σ (19 + i) 2), .int (σ (19 + i) 3)] : List Value).set 3 (.int v))) = (vO_ l D E ad).2.2.2 (ojU σ (19 + i) 3 v)
  | 0, _, v => wO_set 19 (upd (σ 19) 3 v)
  | 1, _, v => wO_set 20 (upd (σ 20) 3 v)
  | 2, _, v => wO_set 21 (upd (σ 21) 3 v)
  | 3, _, v => wO_set 22 (upd (σ 22) 3 v)
  | _ + 4, h, _ => absurd h (by omega)
theorem oC_liters {l : Launch} {D : va_G} {E : ojE} {ad : Nat → Nat} {σ : ojS} : ∀ {i : Nat} (_ : i < 4), ((vO_ l D E ad).2.2.2 σ)[23 + i]? = some (ad (23 + i), .inl (E.1, 96, .inl (σ (23 + i))))
  | 0, _ => wO_at (by decide)
  | 1, _ => wO_at (by decide)
  | 2, _ => wO_at (by decide)
  | 3, _ => wO_at (by decide)
  | _ + 4, h => absurd h (by omega)
theorem oC_liters_s {l : Launch} {D : va_G} {E : ojE} {ad : Nat → Nat} {σ : ojS} : ∀ {i : Nat} (_ : i < 4) (f : Nat → Int32), ((vO_ l D E ad).2.2.2 σ).set (23 + i) (ad (23 + i), .inl (E.1, 96, .inl f)) = (vO_ l D E ad).2.2.2 (ojW σ (23 + i) f)
  | 0, _, f => wO_set 23 f
  | 1, _, f => wO_set 24 f
  | 2, _, f => wO_set 25 f
  | 3, _, f => wO_set 26 f
  | _ + 4, h, _ => absurd h (by omega)
theorem oC_loads {l : Launch} {D : va_G} {E : ojE} {ad : Nat → Nat} {σ : ojS} : ∀ {i : Nat} (_ : i < 4), ((vO_ l D E ad).2.2.2 σ)[27 + i]? = some (ad (27 + i), .inl (E.1, 4, .inl (σ (27 + i))))
  | 0, _ => wO_at (by decide)
  | 1, _ => wO_at (by decide)
  | 2, _ => wO_at (by decide)
  | 3, _ => wO_at (by decide)
  | _ + 4, h => absurd h (by omega)
theorem oC_loads_s {l : Launch} {D : va_G} {E : ojE} {ad : Nat → Nat} {σ : ojS} : ∀ {i : Nat} (_ : i < 4) (f : Nat → Int32), ((vO_ l D E ad).2.2.2 σ).set (27 + i) (ad (27 + i), .inl (E.1, 4, .inl f)) = (vO_ l D E ad).2.2.2 (ojW σ (27 + i) f)
  | 0, _, f => wO_set 27 f
  | 1, _, f => wO_set 28 f
  | 2, _, f => wO_set 29 f
  | 3, _, f => wO_set 30 f
  | _ + 4, h, _ => absurd h (by omega)
theorem oC_Ship {l : Launch} {D : va_G} {E : ojE} {ad : Nat → Nat} {σ : ojS} : ∀ {i : Nat} (_ : i < 8), ((vO_ l D E ad).2.2.2 σ)[31 + i]? = some (ad (31 + i), .inr (4, [.int (σ (31 + i) 0), .int (σ (31 + i) 1), .ref (ad (39 + i))]))
  | 0, _ => wO_at (by decide)
  | 1, _ => wO_at (by decide)
  | 2, _ => wO_at (by decide)
  | 3, _ => wO_at (by decide)
  | 4, _ => wO_at (by decide)
  | 5, _ => wO_at (by decide)
  | 6, _ => wO_at (by decide)
  | 7, _ => wO_at (by decide)
  | _ + 8, h => absurd h (by omega)
theorem oC_Ship_s0 {l : Launch} {D : va_G} {E : ojE} {ad : Nat → Nat} {σ : ojS} : ∀ {i : Nat} (_ : i < 8) (v : Int32), ((vO_ l D E ad).2.2.2 σ).set (31 + i) (ad (31 + i), .inr (4, ([.int (σ (31 + i) 0), .int (σ (31 + i) 1), .ref (ad (39 + i))] : List Value).set 0 (.int v))) = (vO_ l D E ad).2.2.2 (ojU σ (31 + i) 0 v)
  | 0, _, v => wO_set 31 (upd (σ 31) 0 v)
  | 1, _, v => wO_set 32 (upd (σ 32) 0 v)
  | 2, _, v => wO_set 33 (upd (σ 33) 0 v)
  | 3, _, v => wO_set 34 (upd (σ 34) 0 v)
  | 4, _, v => wO_set 35 (upd (σ 35) 0 v)
  | 5, _, v => wO_set 36 (upd (σ 36) 0 v)
  | 6, _, v => wO_set 37 (upd (σ 37) 0 v)
  | 7, _, v => wO_set 38 (upd (σ 38) 0 v)
  | _ + 8, h, _ => absurd h (by omega)
theorem oC_Ship_s1 {l : Launch} {D : va_G} {E : ojE} {ad : Nat → Nat} {σ : ojS} : ∀ {i : Nat} (_ : i < 8) (v : Int32), ((vO_ l D E ad).2.2.2 σ).set (31 + i) (ad (31 + i), .inr (4, ([.int (σ (31 + i) 0), .int (σ (31 + i) 1), .ref (ad (39 + i))] : List Value).set 1 (.int v))) = (vO_ l D E ad).2.2.2 (ojU σ (31 + i) 1 v)
  | 0, _, v => wO_set 31 (upd (σ 31) 1 v)
  | 1, _, v => wO_set 32 (upd (σ 32) 1 v)
  | 2, _, v => wO_set 33 (upd (σ 33) 1 v)
  | 3, _, v => wO_set 34 (upd (σ 34) 1 v)
  | 4, _, v => wO_set 35 (upd (σ 35) 1 v)
  | 5, _, v => wO_set 36 (upd (σ 36) 1 v)
  | 6, _, v => wO_set 37 (upd (σ 37) 1 v)
  | 7, _, v => wO_set 38 (upd (σ 38) 1 v)
  | _ + 8, h, _ => absurd h (by omega)
theorem oC_possible {l : Launch} {D : va_G} {E : ojE} {ad : Nat → Nat} {σ : ojS} : ∀ {i : Nat} (_ : i < 8), ((vO_ l D E ad).2.2.2 σ)[39 + i]? = some (ad (39 + i), .inl (E.2.1, 96, .inl (σ (39 + i))))
  | 0, _ => wO_at (by decide)
  | 1, _ => wO_at (by decide)
  | 2, _ => wO_at (by decide)
  | 3, _ => wO_at (by decide)
  | 4, _ => wO_at (by decide)
  | 5, _ => wO_at (by decide)
  | 6, _ => wO_at (by decide)
  | 7, _ => wO_at (by decide)
  | _ + 8, h => absurd h (by omega)
theorem oC_possible_s {l : Launch} {D : va_G} {E : ojE} {ad : Nat → Nat} {σ : ojS} : ∀ {i : Nat} (_ : i < 8) (f : Nat → Int32), ((vO_ l D E ad).2.2.2 σ).set (39 + i) (ad (39 + i), .inl (E.2.1, 96, .inl f)) = (vO_ l D E ad).2.2.2 (ojW σ (39 + i) f)
  | 0, _, f => wO_set 39 f
  | 1, _, f => wO_set 40 f
  | 2, _, f => wO_set 41 f
  | 3, _, f => wO_set 42 f
  | 4, _, f => wO_set 43 f
  | 5, _, f => wO_set 44 f
  | 6, _, f => wO_set 45 f
  | 7, _, f => wO_set 46 f
  | _ + 8, h, _ => absurd h (by omega)
def eM_cell (E : ojE) (ad : Nat → Nat) (k : Nat) (f : Nat → Int32) : va_E := match k with
  | 0 => .inr (9, [.int (f 0), .ref (ad 1), .ref (ad 2), .ref (ad 3), .ref (ad 4), .ref (ad 5), .ref (ad 6), .ref (ad 7), .ref (ad 8), .int (f 9), .int (f 10), .int (f 11), .int (f 12), .int (f 13), .int (f 14), .ref (ad 9), .ref (ad 10), .ref (ad 11), .ref (ad 12), .ref (ad 13), .ref (ad 14), .ref (ad 15), .ref (ad 16), .int (f 23), .ref (ad 17), .ref (ad 18), .ref (ad 19), .ref (ad 20), .ref (ad 21), .ref (ad 22), .int (f 30), .int (f 31), .ref (ad 23), .ref (ad 24), .ref (ad 25), .ref (ad 26)])
  | 1 => .inl (E.1, 96, .inl (f))
  | 2 => .inl (E.1, 96, .inl (f))
  | 3 => .inl (E.1, 1503, .inl (f))
  | 4 => .inl (E.1, 1503, .inl (f))
  | 5 => .inl (E.2.1, 20, .inl (f))
  | 6 => .inl (E.1, 20, .inl (f))
  | 7 => .inl (E.1, 20, .inl (f))
  | 8 => .inl (E.1, 20, .inl (f))
  | 9 => .inl (E.1, 4, .inl (f))
  | 10 => .inl (E.1, 4, .inl (f))
  | 11 => .inl (E.1, 4, .inl (f))
  | 12 => .inl (E.1, 4, .inl (f))
  | 13 => .inl (E.1, 4, .inl (f))
  | 14 => .inl (E.1, 4, .inl (f))
  | 15 => .inl (E.1, 4, .inl (f))
  | 16 => .inl (E.2.1, 4, .inl (f))
  | 17 => .inl (E.1, 8, .inl (f))
  | 18 => .inl (E.1, 8, .inl (f))
  | 19 => .inl (E.1, 8, .inl (f))
  | 20 => .inl (E.1, 4, .inl (f))
  | 21 => .inl (E.1, 96, .inl (f))
  | 22 => .inl (E.1, 448, .inl (f))
  | 23 => .inl (E.2.1, 96, .inl (f))
  | 24 => .inl (E.2.1, 96, .inl (f))
  | 25 => .inl (E.1, 4, .inl (f))
  | 26 => .inl (E.1, 4, .inl (f))
  | _ => .inl (E.1, 0, .inl f)
def wM_ (E : ojE) (ad : Nat → Nat) (σ : ojS) : va_W := (List.range 27).map (fun k => (ad k, eM_cell E ad k (σ k)))
def vM_ (l : Launch) (D : va_G) (E : ojE) (ad : Nat → Nat) : ojV := (l, D, ojTy E, wM_ E ad)
theorem wM_at {E : ojE} {ad : Nat → Nat} {σ : ojS} {k : Nat} (h : k < 27) : (wM_ E ad σ)[k]? = some (ad k, eM_cell E ad k (σ k)) := by simp [wM_, h]
theorem wM_set {E : ojE} {ad : Nat → Nat} {σ : ojS} (k : Nat) (f : Nat → Int32) : (wM_ E ad σ).set k (ad k, eM_cell E ad k f) = wM_ E ad (ojW σ k f) := oj_range _ _ 27 k _ (by simp [ojW]) (fun i hi => by simp [ojW, hi])
theorem mC_Model {l : Launch} {D : va_G} {E : ojE} {ad : Nat → Nat} {σ : ojS} : ((vM_ l D E ad).2.2.2 σ)[0]? = some (ad 0, .inr (9, [.int (σ 0 0), .ref (ad 1), .ref (ad 2), .ref (ad 3), .ref (ad 4), .ref (ad 5), .ref (ad 6), .ref (ad 7), .ref (ad 8), .int (σ 0 9), .int (σ 0 10), .int (σ 0 11), .int (σ 0 12), .int (σ 0 13), .int (σ 0 14), .ref (ad 9), .ref (ad 10), .ref (ad 11), .ref (ad 12), .ref (ad 13), .ref (ad 14), .ref (ad 15), .ref (ad 16), .int (σ 0 23), .ref (ad 17), .ref (ad 18), .ref (ad 19), .ref (ad 20), .ref (ad 21), .ref (ad 22), .int (σ 0 30), .int (σ 0 31), .ref (ad 23), .ref (ad 24), .ref (ad 25), .ref (ad 26)])) := wM_at (by decide)
theorem mC_Model_s0 {l : Launch} {D : va_G} {E : ojE} {ad : Nat → Nat} {σ : ojS} (v : Int32) : ((vM_ l D E ad).2.2.2 σ).set 0 (ad 0, .inr (9, ([.int (σ 0 0), .ref (ad 1), .ref (ad 2), .ref (ad 3), .ref (ad 4), .ref (ad 5), .ref (ad 6), .ref (ad 7), .ref (ad 8), .int (σ 0 9), .int (σ 0 10), .int (σ 0 11), .int (σ 0 12), .int (σ 0 13), .int (σ 0 14), .ref (ad 9), .ref (ad 10), .ref (ad 11), .ref (ad 12), .ref (ad 13), .ref (ad 14), .ref (ad 15), .ref (ad 16), .int (σ 0 23), .ref (ad 17), .ref (ad 18), .ref (ad 19), .ref (ad 20), .ref (ad 21), .ref (ad 22), .int (σ 0 30), .int (σ 0 31), .ref (ad 23), .ref (ad 24), .ref (ad 25), .ref (ad 26)] : List Value).set 0 (.int v))) = (vM_ l D E ad).2.2.2 (ojU σ 0 0 v) := wM_set 0 (upd (σ 0) 0 v)
theorem mC_Model_s9 {l : Launch} {D : va_G} {E : ojE} {ad : Nat → Nat} {σ : ojS} (v : Int32) : ((vM_ l D E ad).2.2.2 σ).set 0 (ad 0, .inr (9, ([.int (σ 0 0), .ref (ad 1), .ref (ad 2), .ref (ad 3), .ref (ad 4), .ref (ad 5), .ref (ad 6), .ref (ad 7), .ref (ad 8), .int (σ 0 9), .int (σ 0 10), .int (σ 0 11), .int (σ 0 12), .int (σ 0 13), .int (σ 0 14), .ref (ad 9), .ref (ad 10), .ref (ad 11), .ref (ad 12), .ref (ad 13), .ref (ad 14), .ref (ad 15), .ref (ad 16), .int (σ 0 23), .ref (ad 17), .ref (ad 18), .ref (ad 19), .ref (ad 20), .ref (ad 21), .ref (ad 22), .int (σ 0 30), .int (σ 0 31), .ref (ad 23), .ref (ad 24), .ref (ad 25), .ref (ad 26)] : List Value).set 9 (.int v))) = (vM_ l D E ad).2.2.2 (ojU σ 0 9 v) := wM_set 0 (upd (σ 0) 9 v)
theorem mC_Model_s10 {l : Launch} {D : va_G} {E : ojE} {ad : Nat → Nat} {σ : ojS} (v : Int32) : ((vM_ l D E ad).2.2.2 σ).set 0 (ad 0, .inr (9, ([.int (σ 0 0), .ref (ad 1), .ref (ad 2), .ref (ad 3), .ref (ad 4), .ref (ad 5), .ref (ad 6), .ref (ad 7), .ref (ad 8), .int (σ 0 9), .int (σ 0 10), .int (σ 0 11), .int (σ 0 12), .int (σ 0 13), .int (σ 0 14), .ref (ad 9), .ref (ad 10), .ref (ad 11), .ref (ad 12), .ref (ad 13), .ref (ad 14), .ref (ad 15), .ref (ad 16), .int (σ 0 23), .ref (ad 17), .ref (ad 18), .ref (ad 19), .ref (ad 20), .ref (ad 21), .ref (ad 22), .int (σ 0 30), .int (σ 0 31), .ref (ad 23), .ref (ad 24), .ref (ad 25), .ref (ad 26)] : List Value).set 10 (.int v))) = (vM_ l D E ad).2.2.2 (ojU σ 0 10 v) := wM_set 0 (upd (σ 0) 10 v)
theorem mC_Model_s11 {l : Launch} {D : va_G} {E : ojE} {ad : Nat → Nat} {σ : ojS} (v : Int32) : ((vM_ l D E ad).2.2.2 σ).set 0 (ad 0, .inr (9, ([.int (σ 0 0), .ref (ad 1), .ref (ad 2), .ref (ad 3), .ref (ad 4), .ref (ad 5), .ref (ad 6), .ref (ad 7), .ref (ad 8), .int (σ 0 9), .int (σ 0 10), .int (σ 0 11), .int (σ 0 12), .int (σ 0 13), .int (σ 0 14), .ref (ad 9), .ref (ad 10), .ref (ad 11), .ref (ad 12), .ref (ad 13), .ref (ad 14), .ref (ad 15), .ref (ad 16), .int (σ 0 23), .ref (ad 17), .ref (ad 18), .ref (ad 19), .ref (ad 20), .ref (ad 21), .ref (ad 22), .int (σ 0 30), .int (σ 0 31), .ref (ad 23), .ref (ad 24), .ref (ad 25), .ref (ad 26)] : List Value).set 11 (.int v))) = (vM_ l D E ad).2.2.2 (ojU σ 0 11 v) := wM_set 0 (upd (σ 0) 11 v)
theorem mC_Model_s12 {l : Launch} {D : va_G} {E : ojE} {ad : Nat → Nat} {σ : ojS} (v : Int32) : ((vM_ l D E ad).2.2.2 σ).set 0 (ad 0, .inr (9, ([.int (σ 0 0), .ref (ad 1), .ref (ad 2), .ref (ad 3), .ref (ad 4), .ref (ad 5), .ref (ad 6), .ref (ad 7), .ref (ad 8), .int (σ 0 9), .int (σ 0 10), .int (σ 0 11), .int (σ 0 12), .int (σ 0 13), .int (σ 0 14), .ref (ad 9), .ref (ad 10), .ref (ad 11), .ref (ad 12), .ref (ad 13), .ref (ad 14), .ref (ad 15), .ref (ad 16), .int (σ 0 23), .ref (ad 17), .ref (ad 18), .ref (ad 19), .ref (ad 20), .ref (ad 21), .ref (ad 22), .int (σ 0 30), .int (σ 0 31), .ref (ad 23), .ref (ad 24), .ref (ad 25), .ref (ad 26)] : List Value).set 12 (.int v))) = (vM_ l D E ad).2.2.2 (ojU σ 0 12 v) := wM_set 0 (upd (σ 0) 12 v)
theorem mC_Model_s13 {l : Launch} {D : va_G} {E : ojE} {ad : Nat → Nat} {σ : ojS} (v : Int32) : ((vM_ l D E ad).2.2.2 σ).set 0 (ad 0, .inr (9, ([.int (σ 0 0), .ref (ad 1), .ref (ad 2), .ref (ad 3), .ref (ad 4), .ref (ad 5), .ref (ad 6), .ref (ad 7), .ref (ad 8), .int (σ 0 9), .int (σ 0 10), .int (σ 0 11), .int (σ 0 12), .int (σ 0 13), .int (σ 0 14), .ref (ad 9), .ref (ad 10), .ref (ad 11), .ref (ad 12), .ref (ad 13), .ref (ad 14), .ref (ad 15), .ref (ad 16), .int (σ 0 23), .ref (ad 17), .ref (ad 18), .ref (ad 19), .ref (ad 20), .ref (ad 21), .ref (ad 22), .int (σ 0 30), .int (σ 0 31), .ref (ad 23), .ref (ad 24), .ref (ad 25), .ref (ad 26)] : List Value).set 13 (.int v))) = (vM_ l D E ad).2.2.2 (ojU σ 0 13 v) := wM_set 0 (upd (σ 0) 13 v)
theorem mC_Model_s14 {l : Launch} {D : va_G} {E : ojE} {ad : Nat → Nat} {σ : ojS} (v : Int32) : ((vM_ l D E ad).2.2.2 σ).set 0 (ad 0, .inr (9, ([.int (σ 0 0), .ref (ad 1), .ref (ad 2), .ref (ad 3), .ref (ad 4), .ref (ad 5), .ref (ad 6), .ref (ad 7), .ref (ad 8), .int (σ 0 9), .int (σ 0 10), .int (σ 0 11), .int (σ 0 12), .int (σ 0 13), .int (σ 0 14), .ref (ad 9), .ref (ad 10), .ref (ad 11), .ref (ad 12), .ref (ad 13), .ref (ad 14), .ref (ad 15), .ref (ad 16), .int (σ 0 23), .ref (ad 17), .ref (ad 18), .ref (ad 19), .ref (ad 20), .ref (ad 21), .ref (ad 22), .int (σ 0 30), .int (σ 0 31), .ref (ad 23), .ref (ad 24), .ref (ad 25), .ref (ad 26)] : List Value).set 14 (.int v))) = (vM_ l D E ad).2.2.2 (ojU σ 0 14 v) := wM_set 0 (upd (σ 0) 14 v)
theorem mC_Model_s23 {l : Launch} {D : va_G} {E : ojE} {ad : Nat → Nat} {σ : ojS} (v : Int32) : ((vM_ l D E ad).2.2.2 σ).set 0 (ad 0, .inr (9, ([.int (σ 0 0), .ref (ad 1), .ref (ad 2), .ref (ad 3), .ref (ad 4), .ref (ad 5), .ref (ad 6), .ref (ad 7), .ref (ad 8), .int (σ 0 9), .int (σ 0 10), .int (σ 0 11), .int (σ 0 12), .int (σ 0 13), .int (σ 0 14), .ref (ad 9), .ref (ad 10), .ref (ad 11), .ref (ad 12), .ref (ad 13), .ref (ad 14), .ref (ad 15), .ref (ad 16), .int (σ 0 23), .ref (ad 17), .ref (ad 18), .ref (ad 19), .ref (ad 20), .ref (ad 21), .ref (ad 22), .int (σ 0 30), .int (σ 0 31), .ref (ad 23), .ref (ad 24), .ref (ad 25), .ref (ad 26)] : List Value).set 23 (.int v))) = (vM_ l D E ad).2.2.2 (ojU σ 0 23 v) := wM_set 0 (upd (σ 0) 23 v)
theorem mC_Model_s30 {l : Launch} {D : va_G} {E : ojE} {ad : Nat → Nat} {σ : ojS} (v : Int32) : ((vM_ l D E ad).2.2.2 σ).set 0 (ad 0, .inr (9, ([.int (σ 0 0), .ref (ad 1), .ref (ad 2), .ref (ad 3), .ref (ad 4), .ref (ad 5), .ref (ad 6), .ref (ad 7), .ref (ad 8), .int (σ 0 9), .int (σ 0 10), .int (σ 0 11), .int (σ 0 12), .int (σ 0 13), .int (σ 0 14), .ref (ad 9), .ref (ad 10), .ref (ad 11), .ref (ad 12), .ref (ad 13), .ref (ad 14), .ref (ad 15), .ref (ad 16), .int (σ 0 23), .ref (ad 17), .ref (ad 18), .ref (ad 19), .ref (ad 20), .ref (ad 21), .ref (ad 22), .int (σ 0 30), .int (σ 0 31), .ref (ad 23), .ref (ad 24), .ref (ad 25), .ref (ad 26)] : List Value).set 30 (.int v))) = (vM_ l D E ad).2.2.2 (ojU σ 0 30 v) := wM_set 0 (upd (σ 0) 30 v)
theorem mC_Model_s31 {l : Launch} {D : va_G} {E : ojE} {ad : Nat → Nat} {σ : ojS} (v : Int32) : ((vM_ l D E ad).2.2.2 σ).set 0 (ad 0, .inr (9, ([.int (σ 0 0), .ref (ad 1), .ref (ad 2), .ref (ad 3), .ref (ad 4), .ref (ad 5), .ref (ad 6), .ref (ad 7), .ref (ad 8), .int (σ 0 9), .int (σ 0 10), .int (σ 0 11), .int (σ 0 12), .int (σ 0 13), .int (σ 0 14), .ref (ad 9), .ref (ad 10), .ref (ad 11), .ref (ad 12), .ref (ad 13), .ref (ad 14), .ref (ad 15), .ref (ad 16), .int (σ 0 23), .ref (ad 17), .ref (ad 18), .ref (ad 19), .ref (ad 20), .ref (ad 21), .ref (ad 22), .int (σ 0 30), .int (σ 0 31), .ref (ad 23), .ref (ad 24), .ref (ad 25), .ref (ad 26)] : List Value).set 31 (.int v))) = (vM_ l D E ad).2.2.2 (ojU σ 0 31 v) := wM_set 0 (upd (σ 0) 31 v)
theorem mC_m_rank {l : Launch} {D : va_G} {E : ojE} {ad : Nat → Nat} {σ : ojS} : ((vM_ l D E ad).2.2.2 σ)[1]? = some (ad 1, .inl (E.1, 96, .inl (σ 1))) := wM_at (by decide)
theorem mC_m_rank_s {l : Launch} {D : va_G} {E : ojE} {ad : Nat → Nat} {σ : ojS} (f : Nat → Int32) : ((vM_ l D E ad).2.2.2 σ).set 1 (ad 1, .inl (E.1, 96, .inl f)) = (vM_ l D E ad).2.2.2 (ojW σ 1 f) := wM_set 1 f
theorem mC_m_oil {l : Launch} {D : va_G} {E : ojE} {ad : Nat → Nat} {σ : ojS} : ((vM_ l D E ad).2.2.2 σ)[2]? = some (ad 2, .inl (E.1, 96, .inl (σ 2))) := wM_at (by decide)
theorem mC_m_oil_s {l : Launch} {D : va_G} {E : ojE} {ad : Nat → Nat} {σ : ojS} (f : Nat → Int32) : ((vM_ l D E ad).2.2.2 σ).set 2 (ad 2, .inl (E.1, 96, .inl f)) = (vM_ l D E ad).2.2.2 (ojW σ 2 f) := wM_set 2 f
theorem mC_m_way {l : Launch} {D : va_G} {E : ojE} {ad : Nat → Nat} {σ : ojS} : ((vM_ l D E ad).2.2.2 σ)[3]? = some (ad 3, .inl (E.1, 1503, .inl (σ 3))) := wM_at (by decide)
theorem mC_m_way_s {l : Launch} {D : va_G} {E : ojE} {ad : Nat → Nat} {σ : ojS} (f : Nat → Int32) : ((vM_ l D E ad).2.2.2 σ).set 3 (ad 3, .inl (E.1, 1503, .inl f)) = (vM_ l D E ad).2.2.2 (ojW σ 3 f) := wM_set 3 f
theorem mC_m_force {l : Launch} {D : va_G} {E : ojE} {ad : Nat → Nat} {σ : ojS} : ((vM_ l D E ad).2.2.2 σ)[4]? = some (ad 4, .inl (E.1, 1503, .inl (σ 4))) := wM_at (by decide)
theorem mC_m_force_s {l : Launch} {D : va_G} {E : ojE} {ad : Nat → Nat} {σ : ojS} (f : Nat → Int32) : ((vM_ l D E ad).2.2.2 σ).set 4 (ad 4, .inl (E.1, 1503, .inl f)) = (vM_ l D E ad).2.2.2 (ojW σ 4 f) := wM_set 4 f
theorem mC_m_isBoom {l : Launch} {D : va_G} {E : ojE} {ad : Nat → Nat} {σ : ojS} : ((vM_ l D E ad).2.2.2 σ)[5]? = some (ad 5, .inl (E.2.1, 20, .inl (σ 5))) := wM_at (by decide)
theorem mC_m_isBoom_s {l : Launch} {D : va_G} {E : ojE} {ad : Nat → Nat} {σ : ojS} (f : Nat → Int32) : ((vM_ l D E ad).2.2.2 σ).set 5 (ad 5, .inl (E.2.1, 20, .inl f)) = (vM_ l D E ad).2.2.2 (ojW σ 5 f) := wM_set 5 f
theorem mC_m_boomA {l : Launch} {D : va_G} {E : ojE} {ad : Nat → Nat} {σ : ojS} : ((vM_ l D E ad).2.2.2 σ)[6]? = some (ad 6, .inl (E.1, 20, .inl (σ 6))) := wM_at (by decide)
theorem mC_m_boomA_s {l : Launch} {D : va_G} {E : ojE} {ad : Nat → Nat} {σ : ojS} (f : Nat → Int32) : ((vM_ l D E ad).2.2.2 σ).set 6 (ad 6, .inl (E.1, 20, .inl f)) = (vM_ l D E ad).2.2.2 (ojW σ 6 f) := wM_set 6 f
theorem mC_m_boomB {l : Launch} {D : va_G} {E : ojE} {ad : Nat → Nat} {σ : ojS} : ((vM_ l D E ad).2.2.2 σ)[7]? = some (ad 7, .inl (E.1, 20, .inl (σ 7))) := wM_at (by decide)
theorem mC_m_boomB_s {l : Launch} {D : va_G} {E : ojE} {ad : Nat → Nat} {σ : ojS} (f : Nat → Int32) : ((vM_ l D E ad).2.2.2 σ).set 7 (ad 7, .inl (E.1, 20, .inl f)) = (vM_ l D E ad).2.2.2 (ojW σ 7 f) := wM_set 7 f
theorem mC_m_boomLimit {l : Launch} {D : va_G} {E : ojE} {ad : Nat → Nat} {σ : ojS} : ((vM_ l D E ad).2.2.2 σ)[8]? = some (ad 8, .inl (E.1, 20, .inl (σ 8))) := wM_at (by decide)
theorem mC_m_boomLimit_s {l : Launch} {D : va_G} {E : ojE} {ad : Nat → Nat} {σ : ojS} (f : Nat → Int32) : ((vM_ l D E ad).2.2.2 σ).set 8 (ad 8, .inl (E.1, 20, .inl f)) = (vM_ l D E ad).2.2.2 (ojW σ 8 f) := wM_set 8 f
theorem mC_m_at {l : Launch} {D : va_G} {E : ojE} {ad : Nat → Nat} {σ : ojS} : ((vM_ l D E ad).2.2.2 σ)[9]? = some (ad 9, .inl (E.1, 4, .inl (σ 9))) := wM_at (by decide)
theorem mC_m_at_s {l : Launch} {D : va_G} {E : ojE} {ad : Nat → Nat} {σ : ojS} (f : Nat → Int32) : ((vM_ l D E ad).2.2.2 σ).set 9 (ad 9, .inl (E.1, 4, .inl f)) = (vM_ l D E ad).2.2.2 (ojW σ 9 f) := wM_set 9 f
theorem mC_m_rate {l : Launch} {D : va_G} {E : ojE} {ad : Nat → Nat} {σ : ojS} : ((vM_ l D E ad).2.2.2 σ)[10]? = some (ad 10, .inl (E.1, 4, .inl (σ 10))) := wM_at (by decide)
theorem mC_m_rate_s {l : Launch} {D : va_G} {E : ojE} {ad : Nat → Nat} {σ : ojS} (f : Nat → Int32) : ((vM_ l D E ad).2.2.2 σ).set 10 (ad 10, .inl (E.1, 4, .inl f)) = (vM_ l D E ad).2.2.2 (ojW σ 10 f) := wM_set 10 f
theorem mC_m_room {l : Launch} {D : va_G} {E : ojE} {ad : Nat → Nat} {σ : ojS} : ((vM_ l D E ad).2.2.2 σ)[11]? = some (ad 11, .inl (E.1, 4, .inl (σ 11))) := wM_at (by decide)
theorem mC_m_room_s {l : Launch} {D : va_G} {E : ojE} {ad : Nat → Nat} {σ : ojS} (f : Nat → Int32) : ((vM_ l D E ad).2.2.2 σ).set 11 (ad 11, .inl (E.1, 4, .inl f)) = (vM_ l D E ad).2.2.2 (ojW σ 11 f) := wM_set 11 f
theorem mC_m_speed {l : Launch} {D : va_G} {E : ojE} {ad : Nat → Nat} {σ : ojS} : ((vM_ l D E ad).2.2.2 σ)[12]? = some (ad 12, .inl (E.1, 4, .inl (σ 12))) := wM_at (by decide)
theorem mC_m_speed_s {l : Launch} {D : va_G} {E : ojE} {ad : Nat → Nat} {σ : ojS} (f : Nat → Int32) : ((vM_ l D E ad).2.2.2 σ).set 12 (ad 12, .inl (E.1, 4, .inl f)) = (vM_ l D E ad).2.2.2 (ojW σ 12 f) := wM_set 12 f
theorem mC_m_has {l : Launch} {D : va_G} {E : ojE} {ad : Nat → Nat} {σ : ojS} : ((vM_ l D E ad).2.2.2 σ)[13]? = some (ad 13, .inl (E.1, 4, .inl (σ 13))) := wM_at (by decide)
theorem mC_m_has_s {l : Launch} {D : va_G} {E : ojE} {ad : Nat → Nat} {σ : ojS} (f : Nat → Int32) : ((vM_ l D E ad).2.2.2 σ).set 13 (ad 13, .inl (E.1, 4, .inl f)) = (vM_ l D E ad).2.2.2 (ojW σ 13 f) := wM_set 13 f
theorem mC_m_took {l : Launch} {D : va_G} {E : ojE} {ad : Nat → Nat} {σ : ojS} : ((vM_ l D E ad).2.2.2 σ)[14]? = some (ad 14, .inl (E.1, 4, .inl (σ 14))) := wM_at (by decide)
theorem mC_m_took_s {l : Launch} {D : va_G} {E : ojE} {ad : Nat → Nat} {σ : ojS} (f : Nat → Int32) : ((vM_ l D E ad).2.2.2 σ).set 14 (ad 14, .inl (E.1, 4, .inl f)) = (vM_ l D E ad).2.2.2 (ojW σ 14 f) := wM_set 14 f
theorem mC_m_cameIn {l : Launch} {D : va_G} {E : ojE} {ad : Nat → Nat} {σ : ojS} : ((vM_ l D E ad).2.2.2 σ)[15]? = some (ad 15, .inl (E.1, 4, .inl (σ 15))) := wM_at (by decide)
theorem mC_m_cameIn_s {l : Launch} {D : va_G} {E : ojE} {ad : Nat → Nat} {σ : ojS} (f : Nat → Int32) : ((vM_ l D E ad).2.2.2 σ).set 15 (ad 15, .inl (E.1, 4, .inl f)) = (vM_ l D E ad).2.2.2 (ojW σ 15 f) := wM_set 15 f
theorem mC_m_wentNow {l : Launch} {D : va_G} {E : ojE} {ad : Nat → Nat} {σ : ojS} : ((vM_ l D E ad).2.2.2 σ)[16]? = some (ad 16, .inl (E.2.1, 4, .inl (σ 16))) := wM_at (by decide)
theorem mC_m_wentNow_s {l : Launch} {D : va_G} {E : ojE} {ad : Nat → Nat} {σ : ojS} (f : Nat → Int32) : ((vM_ l D E ad).2.2.2 σ).set 16 (ad 16, .inl (E.2.1, 4, .inl f)) = (vM_ l D E ad).2.2.2 (ojW σ 16 f) := wM_set 16 f
theorem mC_m_shipMark {l : Launch} {D : va_G} {E : ojE} {ad : Nat → Nat} {σ : ojS} : ((vM_ l D E ad).2.2.2 σ)[17]? = some (ad 17, .inl (E.1, 8, .inl (σ 17))) := wM_at (by decide)
theorem mC_m_shipMark_s {l : Launch} {D : va_G} {E : ojE} {ad : Nat → Nat} {σ : ojS} (f : Nat → Int32) : ((vM_ l D E ad).2.2.2 σ).set 17 (ad 17, .inl (E.1, 8, .inl f)) = (vM_ l D E ad).2.2.2 (ojW σ 17 f) := wM_set 17 f
theorem mC_m_shipCell {l : Launch} {D : va_G} {E : ojE} {ad : Nat → Nat} {σ : ojS} : ((vM_ l D E ad).2.2.2 σ)[18]? = some (ad 18, .inl (E.1, 8, .inl (σ 18))) := wM_at (by decide)
theorem mC_m_shipCell_s {l : Launch} {D : va_G} {E : ojE} {ad : Nat → Nat} {σ : ojS} (f : Nat → Int32) : ((vM_ l D E ad).2.2.2 σ).set 18 (ad 18, .inl (E.1, 8, .inl f)) = (vM_ l D E ad).2.2.2 (ojW σ 18 f) := wM_set 18 f
theorem mC_m_shipHour {l : Launch} {D : va_G} {E : ojE} {ad : Nat → Nat} {σ : ojS} : ((vM_ l D E ad).2.2.2 σ)[19]? = some (ad 19, .inl (E.1, 8, .inl (σ 19))) := wM_at (by decide)
theorem mC_m_shipHour_s {l : Launch} {D : va_G} {E : ojE} {ad : Nat → Nat} {σ : ojS} (f : Nat → Int32) : ((vM_ l D E ad).2.2.2 σ).set 19 (ad 19, .inl (E.1, 8, .inl f)) = (vM_ l D E ad).2.2.2 (ojW σ 19 f) := wM_set 19 f
theorem mC_m_parts {l : Launch} {D : va_G} {E : ojE} {ad : Nat → Nat} {σ : ojS} : ((vM_ l D E ad).2.2.2 σ)[20]? = some (ad 20, .inl (E.1, 4, .inl (σ 20))) := wM_at (by decide)
theorem mC_m_parts_s {l : Launch} {D : va_G} {E : ojE} {ad : Nat → Nat} {σ : ojS} (f : Nat → Int32) : ((vM_ l D E ad).2.2.2 σ).set 20 (ad 20, .inl (E.1, 4, .inl f)) = (vM_ l D E ad).2.2.2 (ojW σ 20 f) := wM_set 20 f
theorem mC_m_comes {l : Launch} {D : va_G} {E : ojE} {ad : Nat → Nat} {σ : ojS} : ((vM_ l D E ad).2.2.2 σ)[21]? = some (ad 21, .inl (E.1, 96, .inl (σ 21))) := wM_at (by decide)
theorem mC_m_comes_s {l : Launch} {D : va_G} {E : ojE} {ad : Nat → Nat} {σ : ojS} (f : Nat → Int32) : ((vM_ l D E ad).2.2.2 σ).set 21 (ad 21, .inl (E.1, 96, .inl f)) = (vM_ l D E ad).2.2.2 (ojW σ 21 f) := wM_set 21 f
theorem mC_m_kept {l : Launch} {D : va_G} {E : ojE} {ad : Nat → Nat} {σ : ojS} : ((vM_ l D E ad).2.2.2 σ)[22]? = some (ad 22, .inl (E.1, 448, .inl (σ 22))) := wM_at (by decide)
theorem mC_m_kept_s {l : Launch} {D : va_G} {E : ojE} {ad : Nat → Nat} {σ : ojS} (f : Nat → Int32) : ((vM_ l D E ad).2.2.2 σ).set 22 (ad 22, .inl (E.1, 448, .inl f)) = (vM_ l D E ad).2.2.2 (ojW σ 22 f) := wM_set 22 f
theorem mC_m_isThere {l : Launch} {D : va_G} {E : ojE} {ad : Nat → Nat} {σ : ojS} : ((vM_ l D E ad).2.2.2 σ)[23]? = some (ad 23, .inl (E.2.1, 96, .inl (σ 23))) := wM_at (by decide)
theorem mC_m_isThere_s {l : Launch} {D : va_G} {E : ojE} {ad : Nat → Nat} {σ : ojS} (f : Nat → Int32) : ((vM_ l D E ad).2.2.2 σ).set 23 (ad 23, .inl (E.2.1, 96, .inl f)) = (vM_ l D E ad).2.2.2 (ojW σ 23 f) := wM_set 23 f
theorem mC_m_isNext {l : Launch} {D : va_G} {E : ojE} {ad : Nat → Nat} {σ : ojS} : ((vM_ l D E ad).2.2.2 σ)[24]? = some (ad 24, .inl (E.2.1, 96, .inl (σ 24))) := wM_at (by decide)
theorem mC_m_isNext_s {l : Launch} {D : va_G} {E : ojE} {ad : Nat → Nat} {σ : ojS} (f : Nat → Int32) : ((vM_ l D E ad).2.2.2 σ).set 24 (ad 24, .inl (E.2.1, 96, .inl f)) = (vM_ l D E ad).2.2.2 (ojW σ 24 f) := wM_set 24 f
theorem mC_m_cut {l : Launch} {D : va_G} {E : ojE} {ad : Nat → Nat} {σ : ojS} : ((vM_ l D E ad).2.2.2 σ)[25]? = some (ad 25, .inl (E.1, 4, .inl (σ 25))) := wM_at (by decide)
theorem mC_m_cut_s {l : Launch} {D : va_G} {E : ojE} {ad : Nat → Nat} {σ : ojS} (f : Nat → Int32) : ((vM_ l D E ad).2.2.2 σ).set 25 (ad 25, .inl (E.1, 4, .inl f)) = (vM_ l D E ad).2.2.2 (ojW σ 25 f) := wM_set 25 f
theorem mC_m_pays {l : Launch} {D : va_G} {E : ojE} {ad : Nat → Nat} {σ : ojS} : ((vM_ l D E ad).2.2.2 σ)[26]? = some (ad 26, .inl (E.1, 4, .inl (σ 26))) := wM_at (by decide)
theorem mC_m_pays_s {l : Launch} {D : va_G} {E : ojE} {ad : Nat → Nat} {σ : ojS} (f : Nat → Int32) : ((vM_ l D E ad).2.2.2 σ).set 26 (ad 26, .inl (E.1, 4, .inl f)) = (vM_ l D E ad).2.2.2 (ojW σ 26 f) := wM_set 26 f
