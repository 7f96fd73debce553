def f_X2_isCell (a0 : Int32) : Option (Int32) :=
  if a0 < 0 then
    some 0
  else
    if 96 ≤ a0 then
      some 0
    else
      some 1
set_option maxRecDepth 100000 in
set_option maxHeartbeats 4000000 in
theorem wk_X2_isCell {l : Launch} {D : va_G} {E : ojE} {ad : Nat → Nat} {X : ojX} {Q : Int32 → State → Prop} (hc : ojC X (vO_ l D E ad) RX2 cX2_isCell 1 1) (σ : ojS) (hret : ojRr X (vO_ l D E ad) Q cX2_isCell .boolean σ) (a0 : Int32) : ojJ X (vO_ l D E ad) Q (f_X2_isCell a0) σ 0 [(0, .int a0)] [] := by
  unfold f_X2_isCell
  refine oj_iload_n hc dX2_isCell_0 rfl 0 rfl ?_
  refine oj_if_lt hc 14 dX2_isCell_1 (by decide) (fun _ => ?_) ?_
  · refine oj_iconst hc 0 dX2_isCell_14 kc_0 ?_
    exact hret _ _ _ rfl dX2_isCell_15
  · refine oj_iload_n hc dX2_isCell_4 rfl 0 rfl ?_
    refine oj_bipush hc 96 dX2_isCell_5 kb_96 ?_
    refine oj_icmp_ge hc 14 dX2_isCell_7 (by decide) (fun _ => ?_) ?_
    · refine oj_iconst hc 0 dX2_isCell_14 kc_0 ?_
      exact hret _ _ _ rfl dX2_isCell_15
    · refine oj_iconst hc 1 dX2_isCell_10 kc_1 ?_
      refine oj_goto hc 15 dX2_isCell_11 (by decide) ?_
      exact hret _ _ _ rfl dX2_isCell_15
set_option maxRecDepth 100000 in
theorem c_X2_isCell {l : Launch} {D : va_G} {E : ojE} {ad : Nat → Nat} (a0 : Int32) (σ : ojS) : ∀ (r : Int32), f_X2_isCell a0 = some r → ojMi (vO_ l D E ad) yX2_isCell cX2_isCell 1 (some .boolean) 1 [.int a0] σ r σ :=
  ojMi_R (by decide +kernel) rfl .boolean rfl (Nat.le_of_ble_eq_true rfl) rfl (fun X Q hc hret => wk_X2_isCell hc σ hret a0)

def f_X1_isAt_2 (a1 : Int32) (a2 : Int32) (σ : ojS) : Option (Int32) :=
  ojFix (fun _ => none) 600 (fun (rec_2 : Int32 → Option (Int32)) (v2_2 : Int32) =>
    if (σ 9 1) ≤ v2_2 then
      some 0
    else
      ojChk v2_2 4 (
        if (σ (15 + v2_2.toNatClampNeg) 0) = a1 then
          some 1
        else
          ojLet (v2_2 + 1) (fun (x2 : Int32) =>
            rec_2 x2))) a2
set_option maxRecDepth 100000 in
set_option maxHeartbeats 4000000 in
theorem wk_X1_isAt_2 {l : Launch} {D : va_G} {E : ojE} {ad : Nat → Nat} {X : ojX} {Q : Int32 → State → Prop} (hc : ojC X (vO_ l D E ad) RX1 cX1_isAt 3 1) (σ : ojS) (hret : ojRr X (vO_ l D E ad) Q cX1_isAt .boolean σ) (a1 : Int32) (a2 : Int32) : ojJ X (vO_ l D E ad) Q (f_X1_isAt_2 a1 a2 σ) σ 2 [(0, .ref (ad 9)), (1, .int a1), (2, .int a2)] [] := by
  unfold f_X1_isAt_2
  refine oj_fix (fun (r : Int32 → Option (Int32)) => ∀ (v2_2 : Int32), ojJ X (vO_ l D E ad) Q (r v2_2) σ 2 [(0, .ref (ad 9)), (1, .int a1), (2, .int v2_2)] []) _ (fun _ => oj_none) (fun rec_2 hrec_2 v2_2 => ?_) 600 a2
  refine oj_iload_n hc dX1_isAt_2 rfl 2 rfl ?_
  refine oj_aload_n hc dX1_isAt_3 rfl 0 rfl ?_
  refine oj_getf hc ff_X1_18 oC_Fleet rfl dX1_isAt_4 ?_
  refine oj_icmp_ge hc 31 dX1_isAt_7 (by decide) (fun _ => ?_) ?_
  · refine oj_iconst hc 0 dX1_isAt_31 kc_0 ?_
    exact hret _ _ _ rfl dX1_isAt_32
  · refine oj_aload_n hc dX1_isAt_10 rfl 0 rfl ?_
    refine oj_getf hc ff_X1_11 oC_Fleet rfl dX1_isAt_11 ?_
    refine oj_iload_n hc dX1_isAt_14 rfl 2 rfl ?_
    refine oj_aald hc 3 oC_skimmers rfl dX1_isAt_15 (fun hi1 => ?_)
    refine oj_getf hc ff_X1_22 (oC_Skimmer hi1) rfl dX1_isAt_16 ?_
    refine oj_iload_n hc dX1_isAt_19 rfl 1 rfl ?_
    refine oj_icmp_ne hc 25 dX1_isAt_20 (by decide) ?_ (fun _ => ?_)
    · refine oj_iinc hc 1 (fun u => [(0, .ref (ad 9)), (1, .int a1), (2, .int u)]) 2 rfl kc_1 (fun _ => rfl) (by decide) dX1_isAt_25 (fun x2 => ?_)
      refine oj_goto hc 2 dX1_isAt_28 (by decide) ?_
      exact hrec_2 x2
    · refine oj_iconst hc 1 dX1_isAt_23 kc_1 ?_
      exact hret _ _ _ rfl dX1_isAt_24
def f_X1_isAt (a1 : Int32) (σ : ojS) : Option (Int32) :=
  f_X1_isAt_2 a1 0 σ
set_option maxRecDepth 100000 in
set_option maxHeartbeats 4000000 in
theorem wk_X1_isAt {l : Launch} {D : va_G} {E : ojE} {ad : Nat → Nat} {X : ojX} {Q : Int32 → State → Prop} (hc : ojC X (vO_ l D E ad) RX1 cX1_isAt 3 1) (σ : ojS) (hret : ojRr X (vO_ l D E ad) Q cX1_isAt .boolean σ) (a1 : Int32) : ojJ X (vO_ l D E ad) Q (f_X1_isAt a1 σ) σ 0 [(0, .ref (ad 9)), (1, .int a1)] [] := by
  unfold f_X1_isAt
  refine oj_iconst hc 0 dX1_isAt_0 kc_0 ?_
  refine oj_istore_n hc [(0, .ref (ad 9)), (1, .int a1), (2, .int 0)] rfl (by decide) dX1_isAt_1 rfl ?_
  exact wk_X1_isAt_2 hc _ hret a1 0
set_option maxRecDepth 100000 in
theorem c_X1_isAt {l : Launch} {D : va_G} {E : ojE} {ad : Nat → Nat} (a1 : Int32) (σ : ojS) : ∀ (r : Int32), f_X1_isAt a1 σ = some r → ojMi (vO_ l D E ad) yX1_isAt cX1_isAt 3 (some .boolean) 1 [.ref (ad 9), .int a1] σ r σ :=
  ojMi_R (by decide +kernel) rfl .boolean rfl (Nat.le_of_ble_eq_true rfl) rfl (fun X Q hc hret => wk_X1_isAt hc σ hret a1)

def f_X0_endAt_2 (a1 : Int32) (a2 : Int32) (σ : ojS) : Option (Int32) :=
  ojFix (fun _ => none) 600 (fun (rec_2 : Int32 → Option (Int32)) (v2_2 : Int32) =>
    if 4 < v2_2 then
      some 0
    else
      ojChk ((a1 * 5) + v2_2) 480 (
        if (σ 6 ((a1 * 5) + v2_2).toNatClampNeg) = (-1) then
          ojLet (v2_2 + 1) (fun (x1 : Int32) =>
            rec_2 x1)
        else
          some 1)) a2
set_option maxRecDepth 100000 in
set_option maxHeartbeats 4000000 in
theorem wk_X0_endAt_2 {l : Launch} {D : va_G} {E : ojE} {ad : Nat → Nat} {X : ojX} {Q : Int32 → State → Prop} (hc : ojC X (vO_ l D E ad) RX0 cX0_endAt 3 1) (σ : ojS) (hret : ojRr X (vO_ l D E ad) Q cX0_endAt .boolean σ) (a1 : Int32) (a2 : Int32) : ojJ X (vO_ l D E ad) Q (f_X0_endAt_2 a1 a2 σ) σ 2 [(0, .ref (ad 3)), (1, .int a1), (2, .int a2)] [] := by
  unfold f_X0_endAt_2
  refine oj_fix (fun (r : Int32 → Option (Int32)) => ∀ (v2_2 : Int32), ojJ X (vO_ l D E ad) Q (r v2_2) σ 2 [(0, .ref (ad 3)), (1, .int a1), (2, .int v2_2)] []) _ (fun _ => oj_none) (fun rec_2 hrec_2 v2_2 => ?_) 600 a2
  refine oj_iload_n hc dX0_endAt_2 rfl 2 rfl ?_
  refine oj_iconst hc 4 dX0_endAt_3 kc_4 ?_
  refine oj_icmp_gt hc 29 dX0_endAt_4 (by decide) (fun _ => ?_) ?_
  · refine oj_iconst hc 0 dX0_endAt_29 kc_0 ?_
    exact hret _ _ _ rfl dX0_endAt_30
  · refine oj_aload_n hc dX0_endAt_7 rfl 0 rfl ?_
    refine oj_getf hc ff_X0_18 oC_Booms rfl dX0_endAt_8 ?_
    refine oj_iload_n hc dX0_endAt_11 rfl 1 rfl ?_
    refine oj_iconst hc 5 dX0_endAt_12 kc_5 ?_
    refine oj_imul hc dX0_endAt_13 ?_
    refine oj_iload_n hc dX0_endAt_14 rfl 2 rfl ?_
    refine oj_iadd hc dX0_endAt_15 ?_
    refine oj_iald hc 0 oC_blimits rfl dX0_endAt_16 ?_
    refine oj_iconst hc (-1) dX0_endAt_17 kc_m1 ?_
    refine oj_icmp_eq hc 23 dX0_endAt_18 (by decide) (fun _ => ?_) ?_
    · refine oj_iinc hc 1 (fun u => [(0, .ref (ad 3)), (1, .int a1), (2, .int u)]) 2 rfl kc_1 (fun _ => rfl) (by decide) dX0_endAt_23 (fun x1 => ?_)
      refine oj_goto hc 2 dX0_endAt_26 (by decide) ?_
      exact hrec_2 x1
    · refine oj_iconst hc 1 dX0_endAt_21 kc_1 ?_
      exact hret _ _ _ rfl dX0_endAt_22
def f_X0_endAt (a1 : Int32) (σ : ojS) : Option (Int32) :=
  f_X0_endAt_2 a1 1 σ
set_option maxRecDepth 100000 in
set_option maxHeartbeats 4000000 in
theorem wk_X0_endAt {l : Launch} {D : va_G} {E : ojE} {ad : Nat → Nat} {X : ojX} {Q : Int32 → State → Prop} (hc : ojC X (vO_ l D E ad) RX0 cX0_endAt 3 1) (σ : ojS) (hret : ojRr X (vO_ l D E ad) Q cX0_endAt .boolean σ) (a1 : Int32) : ojJ X (vO_ l D E ad) Q (f_X0_endAt a1 σ) σ 0 [(0, .ref (ad 3)), (1, .int a1)] [] := by
  unfold f_X0_endAt
  refine oj_iconst hc 1 dX0_endAt_0 kc_1 ?_
  refine oj_istore_n hc [(0, .ref (ad 3)), (1, .int a1), (2, .int 1)] rfl (by decide) dX0_endAt_1 rfl ?_
  exact wk_X0_endAt_2 hc _ hret a1 1
set_option maxRecDepth 100000 in
theorem c_X0_endAt {l : Launch} {D : va_G} {E : ojE} {ad : Nat → Nat} (a1 : Int32) (σ : ojS) : ∀ (r : Int32), f_X0_endAt a1 σ = some r → ojMi (vO_ l D E ad) yX0_endAt cX0_endAt 3 (some .boolean) 1 [.ref (ad 3), .int a1] σ r σ :=
  ojMi_R (by decide +kernel) rfl .boolean rfl (Nat.le_of_ble_eq_true rfl) rfl (fun X Q hc hret => wk_X0_endAt hc σ hret a1)

def f_X6_tell (a1 : Int32) (a2 : Int32) (a3 : Int32) (a4 : Int32) (σ : ojS) : Option (ojS) :=
  ojChk ((a1 * 501) + a2) 1503 (ojLet (ojU σ 8 ((a1 * 501) + a2).toNatClampNeg ((a3 * 10) + a4)) (fun (σ1 : ojS) =>
    some σ1))
set_option maxRecDepth 100000 in
set_option maxHeartbeats 4000000 in
theorem wk_X6_tell {l : Launch} {D : va_G} {E : ojE} {ad : Nat → Nat} {X : ojX} {Q : ojS → State → Prop} (hc : ojC X (vO_ l D E ad) RX6 cX6_tell 5 1) (hret : ojRv X (vO_ l D E ad) Q cX6_tell) (a1 : Int32) (a2 : Int32) (a3 : Int32) (a4 : Int32) (σ : ojS) : ojJ X (vO_ l D E ad) Q (f_X6_tell a1 a2 a3 a4 σ) σ 0 [(0, .ref (ad 7)), (1, .int a1), (2, .int a2), (3, .int a3), (4, .int a4)] [] := by
  unfold f_X6_tell
  refine oj_aload_n hc dX6_tell_0 rfl 0 rfl ?_
  refine oj_getf hc ff_X6_9 oC_Sky rfl dX6_tell_1 ?_
  refine oj_iload_n hc dX6_tell_4 rfl 1 rfl ?_
  refine oj_sipush hc 501 dX6_tell_5 ks_501 ?_
  refine oj_imul hc dX6_tell_8 ?_
  refine oj_iload_n hc dX6_tell_9 rfl 2 rfl ?_
  refine oj_iadd hc dX6_tell_10 ?_
  refine oj_iload_n hc dX6_tell_11 rfl 3 rfl ?_
  refine oj_bipush hc 10 dX6_tell_12 kb_10 ?_
  refine oj_imul hc dX6_tell_14 ?_
  refine oj_iload hc dX6_tell_15 4 rfl ?_
  refine oj_iadd hc dX6_tell_17 ?_
  refine oj_iast hc 0 oC_packed oC_packed_s rfl rfl dX6_tell_18 (fun σ1 => ?_)
  exact hret _ _ _ dX6_tell_19
set_option maxRecDepth 100000 in
theorem c_X6_tell {l : Launch} {D : va_G} {E : ojE} {ad : Nat → Nat} (a1 : Int32) (a2 : Int32) (a3 : Int32) (a4 : Int32) (σ : ojS) : ∀ (σ1 : ojS), f_X6_tell a1 a2 a3 a4 σ = some σ1 → ojMv (vO_ l D E ad) yX6_tell cX6_tell 5 none 1 [.ref (ad 7), .int a1, .int a2, .int a3, .int a4] σ σ1 :=
  ojMv_W (by decide +kernel) rfl rfl (Nat.le_of_ble_eq_true rfl) rfl (fun X Q hc hret => wk_X6_tell hc hret a1 a2 a3 a4 σ)

def f_X2_isSea (a1 : Int32) (σ : ojS) : Option (Int32) :=
  ojB1 (f_X2_isCell a1) (fun (r1 : Int32) =>
    if r1 = 0 then
      some 0
    else
      ojChk a1 96 (
        if (σ 2 a1.toNatClampNeg) = 0 then
          some 1
        else
          some 0))
set_option maxRecDepth 100000 in
set_option maxHeartbeats 4000000 in
theorem wk_X2_isSea {l : Launch} {D : va_G} {E : ojE} {ad : Nat → Nat} {X : ojX} {Q : Int32 → State → Prop} (hc : ojC X (vO_ l D E ad) RX2 cX2_isSea 2 2) (σ : ojS) (hret : ojRr X (vO_ l D E ad) Q cX2_isSea .boolean σ) (a1 : Int32) : ojJ X (vO_ l D E ad) Q (f_X2_isSea a1 σ) σ 0 [(0, .ref (ad 1)), (1, .int a1)] [] := by
  unfold f_X2_isSea
  refine oj_iload_n hc dX2_isSea_0 rfl 1 rfl ?_
  refine oj_cS1 hc cs_X2_15 (by omega) [.int a1] [] rfl rfl (Nat.le_of_ble_eq_true rfl) dX2_isSea_1 (c_X2_isCell a1 σ) (fun r1 => ?_)
  refine oj_if_eq hc 20 dX2_isSea_4 (by decide) (fun _ => ?_) ?_
  · refine oj_iconst hc 0 dX2_isSea_20 kc_0 ?_
    exact hret _ _ _ rfl dX2_isSea_21
  · refine oj_aload_n hc dX2_isSea_7 rfl 0 rfl ?_
    refine oj_getf hc ff_X2_9 oC_Net rfl dX2_isSea_8 ?_
    refine oj_iload_n hc dX2_isSea_11 rfl 1 rfl ?_
    refine oj_iald hc 0 oC_ranks rfl dX2_isSea_12 ?_
    refine oj_if_ne hc 20 dX2_isSea_13 (by decide) ?_ (fun _ => ?_)
    · refine oj_iconst hc 0 dX2_isSea_20 kc_0 ?_
      exact hret _ _ _ rfl dX2_isSea_21
    · refine oj_iconst hc 1 dX2_isSea_16 kc_1 ?_
      refine oj_goto hc 21 dX2_isSea_17 (by decide) ?_
      exact hret _ _ _ rfl dX2_isSea_21
set_option maxRecDepth 100000 in
theorem c_X2_isSea {l : Launch} {D : va_G} {E : ojE} {ad : Nat → Nat} (a1 : Int32) (σ : ojS) : ∀ (r : Int32), f_X2_isSea a1 σ = some r → ojMi (vO_ l D E ad) yX2_isSea cX2_isSea 2 (some .boolean) 2 [.ref (ad 1), .int a1] σ r σ :=
  ojMi_R (by decide +kernel) rfl .boolean rfl (Nat.le_of_ble_eq_true rfl) rfl (fun X Q hc hret => wk_X2_isSea hc σ hret a1)

def f_X2_ahead (a0 : Int32) (a1 : Int32) : Option (Int32) :=
  ojLet (ojRem a0 12) (fun (x1 : Int32) =>
    if a1 = 1 then
      if a0 < 12 then
        some (-1)
      else
        some (a0 - 12)
    else
      if a1 = 2 then
        if 11 ≤ x1 then
          some (-1)
        else
          some (a0 + 1)
      else
        if a1 = 3 then
          if 84 ≤ a0 then
            some (-1)
          else
            some (a0 + 12)
        else
          if a1 = 4 then
            if x1 ≤ 0 then
              some (-1)
            else
              some (a0 - 1)
          else
            some (-1))
set_option maxRecDepth 100000 in
set_option maxHeartbeats 4000000 in
theorem wk_X2_ahead {l : Launch} {D : va_G} {E : ojE} {ad : Nat → Nat} {X : ojX} {Q : Int32 → State → Prop} (hc : ojC X (vO_ l D E ad) RX2 cX2_ahead 3 1) (σ : ojS) (hret : ojRr X (vO_ l D E ad) Q cX2_ahead .int σ) (a0 : Int32) (a1 : Int32) : ojJ X (vO_ l D E ad) Q (f_X2_ahead a0 a1) σ 0 [(0, .int a0), (1, .int a1)] [] := by
  unfold f_X2_ahead
  refine oj_iload_n hc dX2_ahead_0 rfl 0 rfl ?_
  refine oj_bipush hc 12 dX2_ahead_1 kb_12 ?_
  refine oj_irem hc dX2_ahead_3 (by decide) ?_
  refine oj_nm (fun x1 => ?_)
  refine oj_istore_n hc [(0, .int a0), (1, .int a1), (2, .int x1)] rfl (by decide) dX2_ahead_4 rfl ?_
  refine oj_iload_n hc dX2_ahead_5 rfl 1 rfl ?_
  refine oj_ite (fun hw2 => ?_) (fun hw2 => ?_)
  · refine oj_tableIn hc 36 dX2_ahead_6 (by rw [hw2]; decide) (by rw [hw2]; decide) (by rw [hw2]; rfl) (by decide) ?_
    refine oj_iload_n hc dX2_ahead_36 rfl 0 rfl ?_
    refine oj_bipush hc 12 dX2_ahead_37 kb_12 ?_
    refine oj_icmp_lt hc 49 dX2_ahead_39 (by decide) (fun _ => ?_) ?_
    · refine oj_iconst hc (-1) dX2_ahead_49 kc_m1 ?_
      exact hret _ _ _ rfl dX2_ahead_50
    · refine oj_iload_n hc dX2_ahead_42 rfl 0 rfl ?_
      refine oj_bipush hc 12 dX2_ahead_43 kb_12 ?_
      refine oj_isub hc dX2_ahead_45 ?_
      refine oj_goto hc 50 dX2_ahead_46 (by decide) ?_
      exact hret _ _ _ rfl dX2_ahead_50
  refine oj_ite (fun hw3 => ?_) (fun hw3 => ?_)
  · refine oj_tableIn hc 51 dX2_ahead_6 (by rw [hw3]; decide) (by rw [hw3]; decide) (by rw [hw3]; rfl) (by decide) ?_
    refine oj_iload_n hc dX2_ahead_51 rfl 2 rfl ?_
    refine oj_bipush hc 11 dX2_ahead_52 kb_11 ?_
    refine oj_icmp_ge hc 63 dX2_ahead_54 (by decide) (fun _ => ?_) ?_
    · refine oj_iconst hc (-1) dX2_ahead_63 kc_m1 ?_
      exact hret _ _ _ rfl dX2_ahead_64
    · refine oj_iload_n hc dX2_ahead_57 rfl 0 rfl ?_
      refine oj_iconst hc 1 dX2_ahead_58 kc_1 ?_
      refine oj_iadd hc dX2_ahead_59 ?_
      refine oj_goto hc 64 dX2_ahead_60 (by decide) ?_
      exact hret _ _ _ rfl dX2_ahead_64
  refine oj_ite (fun hw4 => ?_) (fun hw4 => ?_)
  · refine oj_tableIn hc 65 dX2_ahead_6 (by rw [hw4]; decide) (by rw [hw4]; decide) (by rw [hw4]; rfl) (by decide) ?_
    refine oj_iload_n hc dX2_ahead_65 rfl 0 rfl ?_
    refine oj_bipush hc 84 dX2_ahead_66 kb_84 ?_
    refine oj_icmp_ge hc 78 dX2_ahead_68 (by decide) (fun _ => ?_) ?_
    · refine oj_iconst hc (-1) dX2_ahead_78 kc_m1 ?_
      exact hret _ _ _ rfl dX2_ahead_79
    · refine oj_iload_n hc dX2_ahead_71 rfl 0 rfl ?_
      refine oj_bipush hc 12 dX2_ahead_72 kb_12 ?_
      refine oj_iadd hc dX2_ahead_74 ?_
      refine oj_goto hc 79 dX2_ahead_75 (by decide) ?_
      exact hret _ _ _ rfl dX2_ahead_79
  refine oj_ite (fun hw5 => ?_) (fun hw5 => ?_)
  · refine oj_tableIn hc 80 dX2_ahead_6 (by rw [hw5]; decide) (by rw [hw5]; decide) (by rw [hw5]; rfl) (by decide) ?_
    refine oj_iload_n hc dX2_ahead_80 rfl 2 rfl ?_
    refine oj_if_le hc 90 dX2_ahead_81 (by decide) (fun _ => ?_) ?_
    · refine oj_iconst hc (-1) dX2_ahead_90 kc_m1 ?_
      exact hret _ _ _ rfl dX2_ahead_91
    · refine oj_iload_n hc dX2_ahead_84 rfl 0 rfl ?_
      refine oj_iconst hc 1 dX2_ahead_85 kc_1 ?_
      refine oj_isub hc dX2_ahead_86 ?_
      refine oj_goto hc 91 dX2_ahead_87 (by decide) ?_
      exact hret _ _ _ rfl dX2_ahead_91
  refine oj_tableOut hc 92 dX2_ahead_6 (oj_sw 1 4 4 (by decide) (fun k hk => match k, hk with | 0, _ => hw2 | 1, _ => hw3 | 2, _ => hw4 | 3, _ => hw5 | k + 4, hk => absurd hk (by omega))) (by decide) ?_
  refine oj_iconst hc (-1) dX2_ahead_92 kc_m1 ?_
  exact hret _ _ _ rfl dX2_ahead_93
set_option maxRecDepth 100000 in
theorem c_X2_ahead {l : Launch} {D : va_G} {E : ojE} {ad : Nat → Nat} (a0 : Int32) (a1 : Int32) (σ : ojS) : ∀ (r : Int32), f_X2_ahead a0 a1 = some r → ojMi (vO_ l D E ad) yX2_ahead cX2_ahead 3 (some .int) 1 [.int a0, .int a1] σ r σ :=
  ojMi_R (by decide +kernel) rfl .int rfl (Nat.le_of_ble_eq_true rfl) rfl (fun X Q hc hret => wk_X2_ahead hc σ hret a0 a1)

def f_X2_wayBeside_2 (a0 : Int32) (a1 : Int32) (a2 : Int32) : Option (Int32) :=
  ojFix (fun _ => none) 600 (fun (rec_2 : Int32 → Option (Int32)) (v2_2 : Int32) =>
    if 4 < v2_2 then
      some 0
    else
      ojB1 (f_X2_ahead a0 v2_2) (fun (r1 : Int32) =>
        if r1 = a1 then
          some v2_2
        else
          ojLet (v2_2 + 1) (fun (x2 : Int32) =>
            rec_2 x2))) a2
set_option maxRecDepth 100000 in
set_option maxHeartbeats 4000000 in
theorem wk_X2_wayBeside_2 {l : Launch} {D : va_G} {E : ojE} {ad : Nat → Nat} {X : ojX} {Q : Int32 → State → Prop} (hc : ojC X (vO_ l D E ad) RX2 cX2_wayBeside 3 2) (σ : ojS) (hret : ojRr X (vO_ l D E ad) Q cX2_wayBeside .int σ) (a0 : Int32) (a1 : Int32) (a2 : Int32) : ojJ X (vO_ l D E ad) Q (f_X2_wayBeside_2 a0 a1 a2) σ 2 [(0, .int a0), (1, .int a1), (2, .int a2)] [] := by
  unfold f_X2_wayBeside_2
  refine oj_fix (fun (r : Int32 → Option (Int32)) => ∀ (v2_2 : Int32), ojJ X (vO_ l D E ad) Q (r v2_2) σ 2 [(0, .int a0), (1, .int a1), (2, .int v2_2)] []) _ (fun _ => oj_none) (fun rec_2 hrec_2 v2_2 => ?_) 600 a2
  refine oj_iload_n hc dX2_wayBeside_2 rfl 2 rfl ?_
  refine oj_iconst hc 4 dX2_wayBeside_3 kc_4 ?_
  refine oj_icmp_gt hc 24 dX2_wayBeside_4 (by decide) (fun _ => ?_) ?_
  · refine oj_iconst hc 0 dX2_wayBeside_24 kc_0 ?_
    exact hret _ _ _ rfl dX2_wayBeside_25
  · refine oj_iload_n hc dX2_wayBeside_7 rfl 0 rfl ?_
    refine oj_iload_n hc dX2_wayBeside_8 rfl 2 rfl ?_
    refine oj_cS1 hc cs_X2_19 (by omega) [.int a0, .int v2_2] [] rfl rfl (Nat.le_of_ble_eq_true rfl) dX2_wayBeside_9 (c_X2_ahead a0 v2_2 σ) (fun r1 => ?_)
    refine oj_iload_n hc dX2_wayBeside_12 rfl 1 rfl ?_
    refine oj_icmp_ne hc 18 dX2_wayBeside_13 (by decide) ?_ (fun _ => ?_)
    · refine oj_iinc hc 1 (fun u => [(0, .int a0), (1, .int a1), (2, .int u)]) 2 rfl kc_1 (fun _ => rfl) (by decide) dX2_wayBeside_18 (fun x2 => ?_)
      refine oj_goto hc 2 dX2_wayBeside_21 (by decide) ?_
      exact hrec_2 x2
    · refine oj_iload_n hc dX2_wayBeside_16 rfl 2 rfl ?_
      exact hret _ _ _ rfl dX2_wayBeside_17
def f_X2_wayBeside (a0 : Int32) (a1 : Int32) : Option (Int32) :=
  f_X2_wayBeside_2 a0 a1 1
set_option maxRecDepth 100000 in
set_option maxHeartbeats 4000000 in
theorem wk_X2_wayBeside {l : Launch} {D : va_G} {E : ojE} {ad : Nat → Nat} {X : ojX} {Q : Int32 → State → Prop} (hc : ojC X (vO_ l D E ad) RX2 cX2_wayBeside 3 2) (σ : ojS) (hret : ojRr X (vO_ l D E ad) Q cX2_wayBeside .int σ) (a0 : Int32) (a1 : Int32) : ojJ X (vO_ l D E ad) Q (f_X2_wayBeside a0 a1) σ 0 [(0, .int a0), (1, .int a1)] [] := by
  unfold f_X2_wayBeside
  refine oj_iconst hc 1 dX2_wayBeside_0 kc_1 ?_
  refine oj_istore_n hc [(0, .int a0), (1, .int a1), (2, .int 1)] rfl (by decide) dX2_wayBeside_1 rfl ?_
  exact wk_X2_wayBeside_2 hc _ hret a0 a1 1
set_option maxRecDepth 100000 in
theorem c_X2_wayBeside {l : Launch} {D : va_G} {E : ojE} {ad : Nat → Nat} (a0 : Int32) (a1 : Int32) (σ : ojS) : ∀ (r : Int32), f_X2_wayBeside a0 a1 = some r → ojMi (vO_ l D E ad) yX2_wayBeside cX2_wayBeside 3 (some .int) 2 [.int a0, .int a1] σ r σ :=
  ojMi_R (by decide +kernel) rfl .int rfl (Nat.le_of_ble_eq_true rfl) rfl (fun X Q hc hret => wk_X2_wayBeside hc σ hret a0 a1)

def f_X2_opposite (a0 : Int32) : Option (Int32) :=
  if a0 = 1 then
    some 3
  else
    if a0 = 2 then
      some 4
    else
      if a0 = 3 then
        some 1
      else
        if a0 = 4 then
          some 2
        else
          some 0
set_option maxRecDepth 100000 in
set_option maxHeartbeats 4000000 in
theorem wk_X2_opposite {l : Launch} {D : va_G} {E : ojE} {ad : Nat → Nat} {X : ojX} {Q : Int32 → State → Prop} (hc : ojC X (vO_ l D E ad) RX2 cX2_opposite 1 1) (σ : ojS) (hret : ojRr X (vO_ l D E ad) Q cX2_opposite .int σ) (a0 : Int32) : ojJ X (vO_ l D E ad) Q (f_X2_opposite a0) σ 0 [(0, .int a0)] [] := by
  unfold f_X2_opposite
  refine oj_iload_n hc dX2_opposite_0 rfl 0 rfl ?_
  refine oj_ite (fun hw1 => ?_) (fun hw1 => ?_)
  · refine oj_tableIn hc 32 dX2_opposite_1 (by rw [hw1]; decide) (by rw [hw1]; decide) (by rw [hw1]; rfl) (by decide) ?_
    refine oj_iconst hc 3 dX2_opposite_32 kc_3 ?_
    exact hret _ _ _ rfl dX2_opposite_33
  refine oj_ite (fun hw2 => ?_) (fun hw2 => ?_)
  · refine oj_tableIn hc 34 dX2_opposite_1 (by rw [hw2]; decide) (by rw [hw2]; decide) (by rw [hw2]; rfl) (by decide) ?_
    refine oj_iconst hc 4 dX2_opposite_34 kc_4 ?_
    exact hret _ _ _ rfl dX2_opposite_35
  refine oj_ite (fun hw3 => ?_) (fun hw3 => ?_)
  · refine oj_tableIn hc 36 dX2_opposite_1 (by rw [hw3]; decide) (by rw [hw3]; decide) (by rw [hw3]; rfl) (by decide) ?_
    refine oj_iconst hc 1 dX2_opposite_36 kc_1 ?_
    exact hret _ _ _ rfl dX2_opposite_37
  refine oj_ite (fun hw4 => ?_) (fun hw4 => ?_)
  · refine oj_tableIn hc 38 dX2_opposite_1 (by rw [hw4]; decide) (by rw [hw4]; decide) (by rw [hw4]; rfl) (by decide) ?_
    refine oj_iconst hc 2 dX2_opposite_38 kc_2 ?_
    exact hret _ _ _ rfl dX2_opposite_39
  refine oj_tableOut hc 40 dX2_opposite_1 (oj_sw 1 4 4 (by decide) (fun k hk => match k, hk with | 0, _ => hw1 | 1, _ => hw2 | 2, _ => hw3 | 3, _ => hw4 | k + 4, hk => absurd hk (by omega))) (by decide) ?_
  refine oj_iconst hc 0 dX2_opposite_40 kc_0 ?_
  exact hret _ _ _ rfl dX2_opposite_41
set_option maxRecDepth 100000 in
theorem c_X2_opposite {l : Launch} {D : va_G} {E : ojE} {ad : Nat → Nat} (a0 : Int32) (σ : ojS) : ∀ (r : Int32), f_X2_opposite a0 = some r → ojMi (vO_ l D E ad) yX2_opposite cX2_opposite 1 (some .int) 1 [.int a0] σ r σ :=
  ojMi_R (by decide +kernel) rfl .int rfl (Nat.le_of_ble_eq_true rfl) rfl (fun X Q hc hret => wk_X2_opposite hc σ hret a0)

def f_X0_limitBothSides (a1 : Int32) (a2 : Int32) (a3 : Int32) (σ : ojS) : Option (ojS) :=
  ojB1 (f_X2_ahead a1 a2) (fun (r1 : Int32) =>
    ojChk ((a1 * 5) + a2) 480 (ojLet (ojU σ 6 ((a1 * 5) + a2).toNatClampNeg a3) (fun (σ2 : ojS) =>
      if r1 = (-1) then
        some σ2
      else
        ojB1 (f_X2_opposite a2) (fun (r3 : Int32) =>
          ojChk ((r1 * 5) + r3) 480 (ojLet (ojU σ2 6 ((r1 * 5) + r3).toNatClampNeg a3) (fun (σ4 : ojS) =>
            some σ4))))))
set_option maxRecDepth 100000 in
set_option maxHeartbeats 4000000 in
theorem wk_X0_limitBothSides {l : Launch} {D : va_G} {E : ojE} {ad : Nat → Nat} {X : ojX} {Q : ojS → State → Prop} (hc : ojC X (vO_ l D E ad) RX0 cX0_limitBothSides 5 2) (hret : ojRv X (vO_ l D E ad) Q cX0_limitBothSides) (a1 : Int32) (a2 : Int32) (a3 : Int32) (σ : ojS) : ojJ X (vO_ l D E ad) Q (f_X0_limitBothSides a1 a2 a3 σ) σ 0 [(0, .ref (ad 3)), (1, .int a1), (2, .int a2), (3, .int a3)] [] := by
  unfold f_X0_limitBothSides
  refine oj_iload_n hc dX0_limitBothSides_0 rfl 1 rfl ?_
  refine oj_iload_n hc dX0_limitBothSides_1 rfl 2 rfl ?_
  refine oj_cS1 hc cs_X0_29 (by omega) [.int a1, .int a2] [] rfl rfl (Nat.le_of_ble_eq_true rfl) dX0_limitBothSides_2 (c_X2_ahead a1 a2 σ) (fun r1 => ?_)
  refine oj_istore hc [(0, .ref (ad 3)), (1, .int a1), (2, .int a2), (3, .int a3), (4, .int r1)] rfl (by decide) dX0_limitBothSides_5 ?_
  refine oj_aload_n hc dX0_limitBothSides_7 rfl 0 rfl ?_
  refine oj_getf hc ff_X0_18 oC_Booms rfl dX0_limitBothSides_8 ?_
  refine oj_iload_n hc dX0_limitBothSides_11 rfl 1 rfl ?_
  refine oj_iconst hc 5 dX0_limitBothSides_12 kc_5 ?_
  refine oj_imul hc dX0_limitBothSides_13 ?_
  refine oj_iload_n hc dX0_limitBothSides_14 rfl 2 rfl ?_
  refine oj_iadd hc dX0_limitBothSides_15 ?_
  refine oj_iload_n hc dX0_limitBothSides_16 rfl 3 rfl ?_
  refine oj_iast hc 0 oC_blimits oC_blimits_s rfl rfl dX0_limitBothSides_17 (fun σ2 => ?_)
  refine oj_iload hc dX0_limitBothSides_18 4 rfl ?_
  refine oj_iconst hc (-1) dX0_limitBothSides_20 kc_m1 ?_
  refine oj_icmp_eq hc 39 dX0_limitBothSides_21 (by decide) (fun _ => ?_) ?_
  · exact hret _ _ _ dX0_limitBothSides_39
  · refine oj_aload_n hc dX0_limitBothSides_24 rfl 0 rfl ?_
    refine oj_getf hc ff_X0_18 oC_Booms rfl dX0_limitBothSides_25 ?_
    refine oj_iload hc dX0_limitBothSides_28 4 rfl ?_
    refine oj_iconst hc 5 dX0_limitBothSides_30 kc_5 ?_
    refine oj_imul hc dX0_limitBothSides_31 ?_
    refine oj_iload_n hc dX0_limitBothSides_32 rfl 2 rfl ?_
    refine oj_cS1 hc cs_X0_35 (by omega) [.int a2] [.int (r1 * 5), .ref (ad 6)] rfl rfl (Nat.le_of_ble_eq_true rfl) dX0_limitBothSides_33 (c_X2_opposite a2 σ2) (fun r3 => ?_)
    refine oj_iadd hc dX0_limitBothSides_36 ?_
    refine oj_iload_n hc dX0_limitBothSides_37 rfl 3 rfl ?_
    refine oj_iast hc 0 oC_blimits oC_blimits_s rfl rfl dX0_limitBothSides_38 (fun σ4 => ?_)
    exact hret _ _ _ dX0_limitBothSides_39
set_option maxRecDepth 100000 in
theorem c_X0_limitBothSides {l : Launch} {D : va_G} {E : ojE} {ad : Nat → Nat} (a1 : Int32) (a2 : Int32) (a3 : Int32) (σ : ojS) : ∀ (σ1 : ojS), f_X0_limitBothSides a1 a2 a3 σ = some σ1 → ojMv (vO_ l D E ad) yX0_limitBothSides cX0_limitBothSides 5 none 2 [.ref (ad 3), .int a1, .int a2, .int a3] σ σ1 :=
  ojMv_W (by decide +kernel) rfl rfl (Nat.le_of_ble_eq_true rfl) rfl (fun X Q hc hret => wk_X0_limitBothSides hc hret a1 a2 a3 σ)

def f_X0_lay_19 (a1 : Int32) (a2 : Int32) (a3 : Int32) (a4 : Int32) (σ : ojS) : Option (Int32 × ojS) :=
  ojFix (fun _ => none) 600 (fun (rec_19 : Int32 → Option (Int32 × ojS)) (v4_19 : Int32) =>
    if 20 ≤ v4_19 then
      some ((-1), σ)
    else
      ojChk v4_19 20 (
        if (σ 4 v4_19.toNatClampNeg) = (-1) then
          ojChk v4_19 20 (ojLet (ojU σ 4 v4_19.toNatClampNeg a1) (fun (σ2 : ojS) =>
            ojChk v4_19 20 (ojLet (ojU σ2 5 v4_19.toNatClampNeg a2) (fun (σ3 : ojS) =>
              ojBv (f_X0_limitBothSides a1 a2 a3 σ3) (fun (σ5 : ojS) =>
                ojLet (ojU σ5 3 3 ((σ5 3 3) + 1)) (fun (σ6 : ojS) =>
                  some (v4_19, σ6)))))))
        else
          ojLet (v4_19 + 1) (fun (x1 : Int32) =>
            rec_19 x1))) a4
set_option maxRecDepth 100000 in
set_option maxHeartbeats 4000000 in
theorem wk_X0_lay_19 {l : Launch} {D : va_G} {E : ojE} {ad : Nat → Nat} {X : ojX} {Q : Int32 × ojS → State → Prop} (hc : ojC X (vO_ l D E ad) RX0 cX0_lay 5 3) (hret : ojRi X (vO_ l D E ad) Q cX0_lay .int) (a1 : Int32) (a2 : Int32) (a3 : Int32) (a4 : Int32) (σ : ojS) : ojJ X (vO_ l D E ad) Q (f_X0_lay_19 a1 a2 a3 a4 σ) σ 19 [(0, .ref (ad 3)), (1, .int a1), (2, .int a2), (3, .int a3), (4, .int a4)] [] := by
  unfold f_X0_lay_19
  refine oj_fix (fun (r : Int32 → Option (Int32 × ojS)) => ∀ (v4_19 : Int32), ojJ X (vO_ l D E ad) Q (r v4_19) σ 19 [(0, .ref (ad 3)), (1, .int a1), (2, .int a2), (3, .int a3), (4, .int v4_19)] []) _ (fun _ => oj_none) (fun rec_19 hrec_19 v4_19 => ?_) 600 a4
  refine oj_iload hc dX0_lay_19 4 rfl ?_
  refine oj_bipush hc 20 dX0_lay_21 kb_20 ?_
  refine oj_icmp_ge hc 79 dX0_lay_23 (by decide) (fun _ => ?_) ?_
  · refine oj_iconst hc (-1) dX0_lay_79 kc_m1 ?_
    exact hret _ _ _ _ rfl dX0_lay_80
  · refine oj_aload_n hc dX0_lay_26 rfl 0 rfl ?_
    refine oj_getf hc ff_X0_9 oC_Booms rfl dX0_lay_27 ?_
    refine oj_iload hc dX0_lay_30 4 rfl ?_
    refine oj_iald hc 0 oC_bcells rfl dX0_lay_32 ?_
    refine oj_iconst hc (-1) dX0_lay_33 kc_m1 ?_
    refine oj_icmp_ne hc 73 dX0_lay_34 (by decide) ?_ (fun _ => ?_)
    · refine oj_iinc hc 1 (fun u => [(0, .ref (ad 3)), (1, .int a1), (2, .int a2), (3, .int a3), (4, .int u)]) 4 rfl kc_1 (fun _ => rfl) (by decide) dX0_lay_73 (fun x1 => ?_)
      refine oj_goto hc 19 dX0_lay_76 (by decide) ?_
      exact hrec_19 x1
    · refine oj_aload_n hc dX0_lay_37 rfl 0 rfl ?_
      refine oj_getf hc ff_X0_9 oC_Booms rfl dX0_lay_38 ?_
      refine oj_iload hc dX0_lay_41 4 rfl ?_
      refine oj_iload_n hc dX0_lay_43 rfl 1 rfl ?_
      refine oj_iast hc 0 oC_bcells oC_bcells_s rfl rfl dX0_lay_44 (fun σ2 => ?_)
      refine oj_aload_n hc dX0_lay_45 rfl 0 rfl ?_
      refine oj_getf hc ff_X0_15 oC_Booms rfl dX0_lay_46 ?_
      refine oj_iload hc dX0_lay_49 4 rfl ?_
      refine oj_iload_n hc dX0_lay_51 rfl 2 rfl ?_
      refine oj_iast hc 0 oC_bways oC_bways_s rfl rfl dX0_lay_52 (fun σ3 => ?_)
      refine oj_aload_n hc dX0_lay_53 rfl 0 rfl ?_
      refine oj_iload_n hc dX0_lay_54 rfl 1 rfl ?_
      refine oj_iload_n hc dX0_lay_55 rfl 2 rfl ?_
      refine oj_iload_n hc dX0_lay_56 rfl 3 rfl ?_
      refine oj_cVv hc cv_X0_21 (by omega) oC_Booms [.int a1, .int a2, .int a3] [] rfl rfl (Nat.le_of_ble_eq_true rfl) dX0_lay_57 (c_X0_limitBothSides a1 a2 a3 σ3) (fun σ5 => ?_)
      refine oj_aload_n hc dX0_lay_60 rfl 0 rfl ?_
      refine oj_dup hc dX0_lay_61 rfl ?_
      refine oj_getf hc ff_X0_25 oC_Booms rfl dX0_lay_62 ?_
      refine oj_iconst hc 1 dX0_lay_65 kc_1 ?_
      refine oj_iadd hc dX0_lay_66 ?_
      refine oj_putf hc fp_X0_25 oC_Booms oC_Booms_s3 rfl rfl (Nat.le_of_ble_eq_true rfl) dX0_lay_67 (fun σ6 => ?_)
      refine oj_iload hc dX0_lay_70 4 rfl ?_
      exact hret _ _ _ _ rfl dX0_lay_72
def f_X0_lay (a1 : Int32) (a2 : Int32) (a3 : Int32) (σ : ojS) : Option (Int32 × ojS) :=
  ojChk ((a1 * 5) + a2) 480 (
    if (σ 6 ((a1 * 5) + a2).toNatClampNeg) = (-1) then
      f_X0_lay_19 a1 a2 a3 0 σ
    else
      some ((-1), σ))
set_option maxRecDepth 100000 in
set_option maxHeartbeats 4000000 in
theorem wk_X0_lay {l : Launch} {D : va_G} {E : ojE} {ad : Nat → Nat} {X : ojX} {Q : Int32 × ojS → State → Prop} (hc : ojC X (vO_ l D E ad) RX0 cX0_lay 5 3) (hret : ojRi X (vO_ l D E ad) Q cX0_lay .int) (a1 : Int32) (a2 : Int32) (a3 : Int32) (σ : ojS) : ojJ X (vO_ l D E ad) Q (f_X0_lay a1 a2 a3 σ) σ 0 [(0, .ref (ad 3)), (1, .int a1), (2, .int a2), (3, .int a3)] [] := by
  unfold f_X0_lay
  refine oj_aload_n hc dX0_lay_0 rfl 0 rfl ?_
  refine oj_getf hc ff_X0_18 oC_Booms rfl dX0_lay_1 ?_
  refine oj_iload_n hc dX0_lay_4 rfl 1 rfl ?_
  refine oj_iconst hc 5 dX0_lay_5 kc_5 ?_
  refine oj_imul hc dX0_lay_6 ?_
  refine oj_iload_n hc dX0_lay_7 rfl 2 rfl ?_
  refine oj_iadd hc dX0_lay_8 ?_
  refine oj_iald hc 0 oC_blimits rfl dX0_lay_9 ?_
  refine oj_iconst hc (-1) dX0_lay_10 kc_m1 ?_
  refine oj_icmp_eq hc 16 dX0_lay_11 (by decide) (fun _ => ?_) ?_
  · refine oj_iconst hc 0 dX0_lay_16 kc_0 ?_
    refine oj_istore hc [(0, .ref (ad 3)), (1, .int a1), (2, .int a2), (3, .int a3), (4, .int 0)] rfl (by decide) dX0_lay_17 ?_
    exact wk_X0_lay_19 hc hret a1 a2 a3 0 σ
  · refine oj_iconst hc (-1) dX0_lay_14 kc_m1 ?_
    exact hret _ _ _ _ rfl dX0_lay_15
set_option maxRecDepth 100000 in
theorem c_X0_lay {l : Launch} {D : va_G} {E : ojE} {ad : Nat → Nat} (a1 : Int32) (a2 : Int32) (a3 : Int32) (σ : ojS) : ∀ (r : Int32) (σ1 : ojS), f_X0_lay a1 a2 a3 σ = some (r, σ1) → ojMi (vO_ l D E ad) yX0_lay cX0_lay 5 (some .int) 3 [.ref (ad 3), .int a1, .int a2, .int a3] σ r σ1 :=
  ojMi_W (by decide +kernel) rfl .int rfl (Nat.le_of_ble_eq_true rfl) rfl (fun X Q hc hret => wk_X0_lay hc hret a1 a2 a3 σ)

def f_X0_takeUp (a1 : Int32) (σ : ojS) : Option (Int32 × ojS) :=
  if a1 < 0 then
    some (0, σ)
  else
    if 20 ≤ a1 then
      some (0, σ)
    else
      ojChk a1 20 (
        if (σ 4 a1.toNatClampNeg) = (-1) then
          some (0, σ)
        else
          ojChk a1 20 (
            ojChk a1 20 (
              ojBv (f_X0_limitBothSides (σ 4 a1.toNatClampNeg) (σ 5 a1.toNatClampNeg) (-1) σ) (fun (σ2 : ojS) =>
                ojChk a1 20 (ojLet (ojU σ2 4 a1.toNatClampNeg (-1)) (fun (σ3 : ojS) =>
                  ojLet (ojU σ3 3 3 ((σ3 3 3) - 1)) (fun (σ4 : ojS) =>
                    some (1, σ4))))))))
set_option maxRecDepth 100000 in
set_option maxHeartbeats 4000000 in
theorem wk_X0_takeUp {l : Launch} {D : va_G} {E : ojE} {ad : Nat → Nat} {X : ojX} {Q : Int32 × ojS → State → Prop} (hc : ojC X (vO_ l D E ad) RX0 cX0_takeUp 2 3) (hret : ojRi X (vO_ l D E ad) Q cX0_takeUp .boolean) (a1 : Int32) (σ : ojS) : ojJ X (vO_ l D E ad) Q (f_X0_takeUp a1 σ) σ 0 [(0, .ref (ad 3)), (1, .int a1)] [] := by
  unfold f_X0_takeUp
  refine oj_iload_n hc dX0_takeUp_0 rfl 1 rfl ?_
  refine oj_if_lt hc 20 dX0_takeUp_1 (by decide) (fun _ => ?_) ?_
  · refine oj_iconst hc 0 dX0_takeUp_20 kc_0 ?_
    exact hret _ _ _ _ rfl dX0_takeUp_21
  · refine oj_iload_n hc dX0_takeUp_4 rfl 1 rfl ?_
    refine oj_bipush hc 20 dX0_takeUp_5 kb_20 ?_
    refine oj_icmp_ge hc 20 dX0_takeUp_7 (by decide) (fun _ => ?_) ?_
    · refine oj_iconst hc 0 dX0_takeUp_20 kc_0 ?_
      exact hret _ _ _ _ rfl dX0_takeUp_21
    · refine oj_aload_n hc dX0_takeUp_10 rfl 0 rfl ?_
      refine oj_getf hc ff_X0_9 oC_Booms rfl dX0_takeUp_11 ?_
      refine oj_iload_n hc dX0_takeUp_14 rfl 1 rfl ?_
      refine oj_iald hc 0 oC_bcells rfl dX0_takeUp_15 ?_
      refine oj_iconst hc (-1) dX0_takeUp_16 kc_m1 ?_
      refine oj_icmp_ne hc 22 dX0_takeUp_17 (by decide) ?_ (fun _ => ?_)
      · refine oj_aload_n hc dX0_takeUp_22 rfl 0 rfl ?_
        refine oj_aload_n hc dX0_takeUp_23 rfl 0 rfl ?_
        refine oj_getf hc ff_X0_9 oC_Booms rfl dX0_takeUp_24 ?_
        refine oj_iload_n hc dX0_takeUp_27 rfl 1 rfl ?_
        refine oj_iald hc 0 oC_bcells rfl dX0_takeUp_28 ?_
        refine oj_aload_n hc dX0_takeUp_29 rfl 0 rfl ?_
        refine oj_getf hc ff_X0_15 oC_Booms rfl dX0_takeUp_30 ?_
        refine oj_iload_n hc dX0_takeUp_33 rfl 1 rfl ?_
        refine oj_iald hc 0 oC_bways rfl dX0_takeUp_34 ?_
        refine oj_iconst hc (-1) dX0_takeUp_35 kc_m1 ?_
        refine oj_cVv hc cv_X0_21 (by omega) oC_Booms [.int (σ 4 a1.toNatClampNeg), .int (σ 5 a1.toNatClampNeg), .int ((-1))] [] rfl rfl (Nat.le_of_ble_eq_true rfl) dX0_takeUp_36 (c_X0_limitBothSides (σ 4 a1.toNatClampNeg) (σ 5 a1.toNatClampNeg) (-1) σ) (fun σ2 => ?_)
        refine oj_aload_n hc dX0_takeUp_39 rfl 0 rfl ?_
        refine oj_getf hc ff_X0_9 oC_Booms rfl dX0_takeUp_40 ?_
        refine oj_iload_n hc dX0_takeUp_43 rfl 1 rfl ?_
        refine oj_iconst hc (-1) dX0_takeUp_44 kc_m1 ?_
        refine oj_iast hc 0 oC_bcells oC_bcells_s rfl rfl dX0_takeUp_45 (fun σ3 => ?_)
        refine oj_aload_n hc dX0_takeUp_46 rfl 0 rfl ?_
        refine oj_dup hc dX0_takeUp_47 rfl ?_
        refine oj_getf hc ff_X0_25 oC_Booms rfl dX0_takeUp_48 ?_
        refine oj_iconst hc 1 dX0_takeUp_51 kc_1 ?_
        refine oj_isub hc dX0_takeUp_52 ?_
        refine oj_putf hc fp_X0_25 oC_Booms oC_Booms_s3 rfl rfl (Nat.le_of_ble_eq_true rfl) dX0_takeUp_53 (fun σ4 => ?_)
        refine oj_iconst hc 1 dX0_takeUp_56 kc_1 ?_
        exact hret _ _ _ _ rfl dX0_takeUp_57
      · refine oj_iconst hc 0 dX0_takeUp_20 kc_0 ?_
        exact hret _ _ _ _ rfl dX0_takeUp_21
set_option maxRecDepth 100000 in
theorem c_X0_takeUp {l : Launch} {D : va_G} {E : ojE} {ad : Nat → Nat} (a1 : Int32) (σ : ojS) : ∀ (r : Int32) (σ1 : ojS), f_X0_takeUp a1 σ = some (r, σ1) → ojMi (vO_ l D E ad) yX0_takeUp cX0_takeUp 2 (some .boolean) 3 [.ref (ad 3), .int a1] σ r σ1 :=
  ojMi_W (by decide +kernel) rfl .boolean rfl (Nat.le_of_ble_eq_true rfl) rfl (fun X Q hc hret => wk_X0_takeUp hc hret a1 σ)

def f_X1_add (a1 : Int32) (a2 : Int32) (a3 : Int32) (a4 : Int32) (σ : ojS) : Option (Int32 × ojS) :=
  if (σ 9 1) < 4 then
    ojChk (σ 9 1) 4 (
      ojLet (ojU σ (15 + (σ 9 1).toNatClampNeg) 0 a1) (fun (σ2 : ojS) =>
        ojLet (ojU σ2 (15 + (σ 9 1).toNatClampNeg) 1 a2) (fun (σ3 : ojS) =>
          ojLet (ojU σ3 (15 + (σ 9 1).toNatClampNeg) 2 a3) (fun (σ4 : ojS) =>
            ojLet (ojU σ4 (15 + (σ 9 1).toNatClampNeg) 3 a4) (fun (σ5 : ojS) =>
              ojLet (ojU σ5 9 1 ((σ5 9 1) + 1)) (fun (σ6 : ojS) =>
                some ((σ6 9 1) - 1, σ6)))))))
  else
    some ((-1), σ)
set_option maxRecDepth 100000 in
set_option maxHeartbeats 4000000 in
theorem wk_X1_add {l : Launch} {D : va_G} {E : ojE} {ad : Nat → Nat} {X : ojX} {Q : Int32 × ojS → State → Prop} (hc : ojC X (vO_ l D E ad) RX1 cX1_add 6 1) (hret : ojRi X (vO_ l D E ad) Q cX1_add .int) (a1 : Int32) (a2 : Int32) (a3 : Int32) (a4 : Int32) (σ : ojS) : ojJ X (vO_ l D E ad) Q (f_X1_add a1 a2 a3 a4 σ) σ 0 [(0, .ref (ad 9)), (1, .int a1), (2, .int a2), (3, .int a3), (4, .int a4)] [] := by
  unfold f_X1_add
  refine oj_aload_n hc dX1_add_0 rfl 0 rfl ?_
  refine oj_getf hc ff_X1_18 oC_Fleet rfl dX1_add_1 ?_
  refine oj_iconst hc 4 dX1_add_4 kc_4 ?_
  refine oj_icmp_lt hc 10 dX1_add_5 (by decide) (fun _ => ?_) ?_
  · refine oj_aload_n hc dX1_add_10 rfl 0 rfl ?_
    refine oj_getf hc ff_X1_11 oC_Fleet rfl dX1_add_11 ?_
    refine oj_aload_n hc dX1_add_14 rfl 0 rfl ?_
    refine oj_getf hc ff_X1_18 oC_Fleet rfl dX1_add_15 ?_
    refine oj_aald hc 3 oC_skimmers rfl dX1_add_18 (fun hi1 => ?_)
    refine oj_astore hc [(0, .ref (ad 9)), (1, .int a1), (2, .int a2), (3, .int a3), (4, .int a4), (5, .ref (ad (15 + (σ 9 1).toNatClampNeg)))] rfl (by decide) dX1_add_19 ?_
    refine oj_aload hc dX1_add_21 5 rfl ?_
    refine oj_iload_n hc dX1_add_23 rfl 1 rfl ?_
    refine oj_putf hc fp_X1_22 (oC_Skimmer hi1) (oC_Skimmer_s0 hi1) rfl rfl (Nat.le_of_ble_eq_true rfl) dX1_add_24 (fun σ2 => ?_)
    refine oj_aload hc dX1_add_27 5 rfl ?_
    refine oj_iload_n hc dX1_add_29 rfl 2 rfl ?_
    refine oj_putf hc fp_X1_25 (oC_Skimmer hi1) (oC_Skimmer_s1 hi1) rfl rfl (Nat.le_of_ble_eq_true rfl) dX1_add_30 (fun σ3 => ?_)
    refine oj_aload hc dX1_add_33 5 rfl ?_
    refine oj_iload_n hc dX1_add_35 rfl 3 rfl ?_
    refine oj_putf hc fp_X1_28 (oC_Skimmer hi1) (oC_Skimmer_s2 hi1) rfl rfl (Nat.le_of_ble_eq_true rfl) dX1_add_36 (fun σ4 => ?_)
    refine oj_aload hc dX1_add_39 5 rfl ?_
    refine oj_iload hc dX1_add_41 4 rfl ?_
    refine oj_putf hc fp_X1_31 (oC_Skimmer hi1) (oC_Skimmer_s3 hi1) rfl rfl (Nat.le_of_ble_eq_true rfl) dX1_add_43 (fun σ5 => ?_)
    refine oj_aload_n hc dX1_add_46 rfl 0 rfl ?_
    refine oj_dup hc dX1_add_47 rfl ?_
    refine oj_getf hc ff_X1_18 oC_Fleet rfl dX1_add_48 ?_
    refine oj_iconst hc 1 dX1_add_51 kc_1 ?_
    refine oj_iadd hc dX1_add_52 ?_
    refine oj_putf hc fp_X1_18 oC_Fleet oC_Fleet_s1 rfl rfl (Nat.le_of_ble_eq_true rfl) dX1_add_53 (fun σ6 => ?_)
    refine oj_aload_n hc dX1_add_56 rfl 0 rfl ?_
    refine oj_getf hc ff_X1_18 oC_Fleet rfl dX1_add_57 ?_
    refine oj_iconst hc 1 dX1_add_60 kc_1 ?_
    refine oj_isub hc dX1_add_61 ?_
    exact hret _ _ _ _ rfl dX1_add_62
  · refine oj_iconst hc (-1) dX1_add_8 kc_m1 ?_
    exact hret _ _ _ _ rfl dX1_add_9
set_option maxRecDepth 100000 in
theorem c_X1_add {l : Launch} {D : va_G} {E : ojE} {ad : Nat → Nat} (a1 : Int32) (a2 : Int32) (a3 : Int32) (a4 : Int32) (σ : ojS) : ∀ (r : Int32) (σ1 : ojS), f_X1_add a1 a2 a3 a4 σ = some (r, σ1) → ojMi (vO_ l D E ad) yX1_add cX1_add 6 (some .int) 1 [.ref (ad 9), .int a1, .int a2, .int a3, .int a4] σ r σ1 :=
  ojMi_W (by decide +kernel) rfl .int rfl (Nat.le_of_ble_eq_true rfl) rfl (fun X Q hc hret => wk_X1_add hc hret a1 a2 a3 a4 σ)

def f_X1_has (a1 : Int32) (σ : ojS) : Option (Int32) :=
  if a1 < 0 then
    some 0
  else
    if (σ 9 1) ≤ a1 then
      some 0
    else
      some 1
set_option maxRecDepth 100000 in
set_option maxHeartbeats 4000000 in
theorem wk_X1_has {l : Launch} {D : va_G} {E : ojE} {ad : Nat → Nat} {X : ojX} {Q : Int32 → State → Prop} (hc : ojC X (vO_ l D E ad) RX1 cX1_has 2 1) (σ : ojS) (hret : ojRr X (vO_ l D E ad) Q cX1_has .boolean σ) (a1 : Int32) : ojJ X (vO_ l D E ad) Q (f_X1_has a1 σ) σ 0 [(0, .ref (ad 9)), (1, .int a1)] [] := by
  unfold f_X1_has
  refine oj_iload_n hc dX1_has_0 rfl 1 rfl ?_
  refine oj_if_lt hc 16 dX1_has_1 (by decide) (fun _ => ?_) ?_
  · refine oj_iconst hc 0 dX1_has_16 kc_0 ?_
    exact hret _ _ _ rfl dX1_has_17
  · refine oj_iload_n hc dX1_has_4 rfl 1 rfl ?_
    refine oj_aload_n hc dX1_has_5 rfl 0 rfl ?_
    refine oj_getf hc ff_X1_18 oC_Fleet rfl dX1_has_6 ?_
    refine oj_icmp_ge hc 16 dX1_has_9 (by decide) (fun _ => ?_) ?_
    · refine oj_iconst hc 0 dX1_has_16 kc_0 ?_
      exact hret _ _ _ rfl dX1_has_17
    · refine oj_iconst hc 1 dX1_has_12 kc_1 ?_
      refine oj_goto hc 17 dX1_has_13 (by decide) ?_
      exact hret _ _ _ rfl dX1_has_17
set_option maxRecDepth 100000 in
theorem c_X1_has {l : Launch} {D : va_G} {E : ojE} {ad : Nat → Nat} (a1 : Int32) (σ : ojS) : ∀ (r : Int32), f_X1_has a1 σ = some r → ojMi (vO_ l D E ad) yX1_has cX1_has 2 (some .boolean) 1 [.ref (ad 9), .int a1] σ r σ :=
  ojMi_R (by decide +kernel) rfl .boolean rfl (Nat.le_of_ble_eq_true rfl) rfl (fun X Q hc hret => wk_X1_has hc σ hret a1)

def f_X2_distance (a0 : Int32) (a1 : Int32) : Option (Int32) :=
  some ((ojAbs ((a0 / 12) - (a1 / 12))) + (ojAbs ((ojRem a0 12) - (ojRem a1 12))))
set_option maxRecDepth 100000 in
set_option maxHeartbeats 4000000 in
theorem wk_X2_distance {l : Launch} {D : va_G} {E : ojE} {ad : Nat → Nat} {X : ojX} {Q : Int32 → State → Prop} (hc : ojC X (vO_ l D E ad) RX2 cX2_distance 2 1) (σ : ojS) (hret : ojRr X (vO_ l D E ad) Q cX2_distance .int σ) (a0 : Int32) (a1 : Int32) : ojJ X (vO_ l D E ad) Q (f_X2_distance a0 a1) σ 0 [(0, .int a0), (1, .int a1)] [] := by
  unfold f_X2_distance
  refine oj_iload_n hc dX2_distance_0 rfl 0 rfl ?_
  refine oj_bipush hc 12 dX2_distance_1 kb_12 ?_
  refine oj_idiv hc dX2_distance_3 (by decide) ?_
  refine oj_iload_n hc dX2_distance_4 rfl 1 rfl ?_
  refine oj_bipush hc 12 dX2_distance_5 kb_12 ?_
  refine oj_idiv hc dX2_distance_7 (by decide) ?_
  refine oj_isub hc dX2_distance_8 ?_
  refine oj_mabs hc (by omega) mm_X2_23 mm_sabs mm_ini mm_cabs (Nat.le_of_ble_eq_true rfl) dX2_distance_9 ?_
  refine oj_iload_n hc dX2_distance_12 rfl 0 rfl ?_
  refine oj_bipush hc 12 dX2_distance_13 kb_12 ?_
  refine oj_irem hc dX2_distance_15 (by decide) ?_
  refine oj_iload_n hc dX2_distance_16 rfl 1 rfl ?_
  refine oj_bipush hc 12 dX2_distance_17 kb_12 ?_
  refine oj_irem hc dX2_distance_19 (by decide) ?_
  refine oj_isub hc dX2_distance_20 ?_
  refine oj_mabs hc (by omega) mm_X2_23 mm_sabs mm_ini mm_cabs (Nat.le_of_ble_eq_true rfl) dX2_distance_21 ?_
  refine oj_iadd hc dX2_distance_24 ?_
  exact hret _ _ _ rfl dX2_distance_25
set_option maxRecDepth 100000 in
theorem c_X2_distance {l : Launch} {D : va_G} {E : ojE} {ad : Nat → Nat} (a0 : Int32) (a1 : Int32) (σ : ojS) : ∀ (r : Int32), f_X2_distance a0 a1 = some r → ojMi (vO_ l D E ad) yX2_distance cX2_distance 2 (some .int) 1 [.int a0, .int a1] σ r σ :=
  ojMi_R (by decide +kernel) rfl .int rfl (Nat.le_of_ble_eq_true rfl) rfl (fun X Q hc hret => wk_X2_distance hc σ hret a0 a1)

def f_X6_at (a1 : Int32) (a2 : Int32) (σ : ojS) : Option (Int32) :=
  if a2 ≤ 500 then
    ojChk ((a1 * 501) + a2) 1503 (
      some (σ 8 ((a1 * 501) + a2).toNatClampNeg))
  else
    some 0
set_option maxRecDepth 100000 in
set_option maxHeartbeats 4000000 in
theorem wk_X6_at {l : Launch} {D : va_G} {E : ojE} {ad : Nat → Nat} {X : ojX} {Q : Int32 → State → Prop} (hc : ojC X (vO_ l D E ad) RX6 cX6_at 3 1) (σ : ojS) (hret : ojRr X (vO_ l D E ad) Q cX6_at .int σ) (a1 : Int32) (a2 : Int32) : ojJ X (vO_ l D E ad) Q (f_X6_at a1 a2 σ) σ 0 [(0, .ref (ad 7)), (1, .int a1), (2, .int a2)] [] := by
  unfold f_X6_at
  refine oj_iload_n hc dX6_at_0 rfl 2 rfl ?_
  refine oj_sipush hc 500 dX6_at_1 ks_500 ?_
  refine oj_icmp_le hc 11 dX6_at_4 (by decide) (fun _ => ?_) ?_
  · refine oj_aload_n hc dX6_at_11 rfl 0 rfl ?_
    refine oj_getf hc ff_X6_9 oC_Sky rfl dX6_at_12 ?_
    refine oj_iload_n hc dX6_at_15 rfl 1 rfl ?_
    refine oj_sipush hc 501 dX6_at_16 ks_501 ?_
    refine oj_imul hc dX6_at_19 ?_
    refine oj_iload_n hc dX6_at_20 rfl 2 rfl ?_
    refine oj_iadd hc dX6_at_21 ?_
    refine oj_iald hc 0 oC_packed rfl dX6_at_22 ?_
    exact hret _ _ _ rfl dX6_at_23
  · refine oj_iconst hc 0 dX6_at_7 kc_0 ?_
    refine oj_goto hc 23 dX6_at_8 (by decide) ?_
    exact hret _ _ _ rfl dX6_at_23
set_option maxRecDepth 100000 in
theorem c_X6_at {l : Launch} {D : va_G} {E : ojE} {ad : Nat → Nat} (a1 : Int32) (a2 : Int32) (σ : ojS) : ∀ (r : Int32), f_X6_at a1 a2 σ = some r → ojMi (vO_ l D E ad) yX6_at cX6_at 3 (some .int) 1 [.ref (ad 7), .int a1, .int a2] σ r σ :=
  ojMi_R (by decide +kernel) rfl .int rfl (Nat.le_of_ble_eq_true rfl) rfl (fun X Q hc hret => wk_X6_at hc σ hret a1 a2)

def f_X6_wayAt (a1 : Int32) (a2 : Int32) (σ : ojS) : Option (Int32) :=
  ojB1 (f_X6_at a1 a2 σ) (fun (r1 : Int32) =>
    some (r1 / 10))
set_option maxRecDepth 100000 in
set_option maxHeartbeats 4000000 in
theorem wk_X6_wayAt {l : Launch} {D : va_G} {E : ojE} {ad : Nat → Nat} {X : ojX} {Q : Int32 → State → Prop} (hc : ojC X (vO_ l D E ad) RX6 cX6_wayAt 3 2) (σ : ojS) (hret : ojRr X (vO_ l D E ad) Q cX6_wayAt .int σ) (a1 : Int32) (a2 : Int32) : ojJ X (vO_ l D E ad) Q (f_X6_wayAt a1 a2 σ) σ 0 [(0, .ref (ad 7)), (1, .int a1), (2, .int a2)] [] := by
  unfold f_X6_wayAt
  refine oj_aload_n hc dX6_wayAt_0 rfl 0 rfl ?_
  refine oj_iload_n hc dX6_wayAt_1 rfl 1 rfl ?_
  refine oj_iload_n hc dX6_wayAt_2 rfl 2 rfl ?_
  refine oj_cV1 hc cv_X6_15 (by omega) oC_Sky [.int a1, .int a2] [] rfl rfl (Nat.le_of_ble_eq_true rfl) dX6_wayAt_3 (c_X6_at a1 a2 σ) (fun r1 => ?_)
  refine oj_bipush hc 10 dX6_wayAt_6 kb_10 ?_
  refine oj_idiv hc dX6_wayAt_8 (by decide) ?_
  exact hret _ _ _ rfl dX6_wayAt_9
set_option maxRecDepth 100000 in
theorem c_X6_wayAt {l : Launch} {D : va_G} {E : ojE} {ad : Nat → Nat} (a1 : Int32) (a2 : Int32) (σ : ojS) : ∀ (r : Int32), f_X6_wayAt a1 a2 σ = some r → ojMi (vO_ l D E ad) yX6_wayAt cX6_wayAt 3 (some .int) 2 [.ref (ad 7), .int a1, .int a2] σ r σ :=
  ojMi_R (by decide +kernel) rfl .int rfl (Nat.le_of_ble_eq_true rfl) rfl (fun X Q hc hret => wk_X6_wayAt hc σ hret a1 a2)

def f_X6_forceAt (a1 : Int32) (a2 : Int32) (σ : ojS) : Option (Int32) :=
  ojB1 (f_X6_at a1 a2 σ) (fun (r1 : Int32) =>
    some (ojRem r1 10))
set_option maxRecDepth 100000 in
set_option maxHeartbeats 4000000 in
theorem wk_X6_forceAt {l : Launch} {D : va_G} {E : ojE} {ad : Nat → Nat} {X : ojX} {Q : Int32 → State → Prop} (hc : ojC X (vO_ l D E ad) RX6 cX6_forceAt 3 2) (σ : ojS) (hret : ojRr X (vO_ l D E ad) Q cX6_forceAt .int σ) (a1 : Int32) (a2 : Int32) : ojJ X (vO_ l D E ad) Q (f_X6_forceAt a1 a2 σ) σ 0 [(0, .ref (ad 7)), (1, .int a1), (2, .int a2)] [] := by
  unfold f_X6_forceAt
  refine oj_aload_n hc dX6_forceAt_0 rfl 0 rfl ?_
  refine oj_iload_n hc dX6_forceAt_1 rfl 1 rfl ?_
  refine oj_iload_n hc dX6_forceAt_2 rfl 2 rfl ?_
  refine oj_cV1 hc cv_X6_15 (by omega) oC_Sky [.int a1, .int a2] [] rfl rfl (Nat.le_of_ble_eq_true rfl) dX6_forceAt_3 (c_X6_at a1 a2 σ) (fun r1 => ?_)
  refine oj_bipush hc 10 dX6_forceAt_6 kb_10 ?_
  refine oj_irem hc dX6_forceAt_8 (by decide) ?_
  exact hret _ _ _ rfl dX6_forceAt_9
set_option maxRecDepth 100000 in
theorem c_X6_forceAt {l : Launch} {D : va_G} {E : ojE} {ad : Nat → Nat} (a1 : Int32) (a2 : Int32) (σ : ojS) : ∀ (r : Int32), f_X6_forceAt a1 a2 σ = some r → ojMi (vO_ l D E ad) yX6_forceAt cX6_forceAt 3 (some .int) 2 [.ref (ad 7), .int a1, .int a2] σ r σ :=
  ojMi_R (by decide +kernel) rfl .int rfl (Nat.le_of_ble_eq_true rfl) rfl (fun X Q hc hret => wk_X6_forceAt hc σ hret a1 a2)

def f_X0_hold (a1 : Int32) (a2 : Int32) (a3 : Int32) (σ : ojS) : Option (Int32) :=
  ojChk ((a1 * 5) + a2) 480 (
    if (σ 6 ((a1 * 5) + a2).toNatClampNeg) < a3 then
      some 0
    else
      some 1)
set_option maxRecDepth 100000 in
set_option maxHeartbeats 4000000 in
theorem wk_X0_hold {l : Launch} {D : va_G} {E : ojE} {ad : Nat → Nat} {X : ojX} {Q : Int32 → State → Prop} (hc : ojC X (vO_ l D E ad) RX0 cX0_hold 4 1) (σ : ojS) (hret : ojRr X (vO_ l D E ad) Q cX0_hold .boolean σ) (a1 : Int32) (a2 : Int32) (a3 : Int32) : ojJ X (vO_ l D E ad) Q (f_X0_hold a1 a2 a3 σ) σ 0 [(0, .ref (ad 3)), (1, .int a1), (2, .int a2), (3, .int a3)] [] := by
  unfold f_X0_hold
  refine oj_iload_n hc dX0_hold_0 rfl 3 rfl ?_
  refine oj_aload_n hc dX0_hold_1 rfl 0 rfl ?_
  refine oj_getf hc ff_X0_18 oC_Booms rfl dX0_hold_2 ?_
  refine oj_iload_n hc dX0_hold_5 rfl 1 rfl ?_
  refine oj_iconst hc 5 dX0_hold_6 kc_5 ?_
  refine oj_imul hc dX0_hold_7 ?_
  refine oj_iload_n hc dX0_hold_8 rfl 2 rfl ?_
  refine oj_iadd hc dX0_hold_9 ?_
  refine oj_iald hc 0 oC_blimits rfl dX0_hold_10 ?_
  refine oj_icmp_gt hc 18 dX0_hold_11 (by decide) (fun _ => ?_) ?_
  · refine oj_iconst hc 0 dX0_hold_18 kc_0 ?_
    exact hret _ _ _ rfl dX0_hold_19
  · refine oj_iconst hc 1 dX0_hold_14 kc_1 ?_
    refine oj_goto hc 19 dX0_hold_15 (by decide) ?_
    exact hret _ _ _ rfl dX0_hold_19
set_option maxRecDepth 100000 in
theorem c_X0_hold {l : Launch} {D : va_G} {E : ojE} {ad : Nat → Nat} (a1 : Int32) (a2 : Int32) (a3 : Int32) (σ : ojS) : ∀ (r : Int32), f_X0_hold a1 a2 a3 σ = some r → ojMi (vO_ l D E ad) yX0_hold cX0_hold 4 (some .boolean) 1 [.ref (ad 3), .int a1, .int a2, .int a3] σ r σ :=
  ojMi_R (by decide +kernel) rfl .boolean rfl (Nat.le_of_ble_eq_true rfl) rfl (fun X Q hc hret => wk_X0_hold hc σ hret a1 a2 a3)

def f_X1_roomLeft (n1 : Nat) (a2 : Int32) (σ : ojS) : Option (Int32) :=
  ojChk a2 4 (
    ojChk a2 4 (
      some ((σ (15 + a2.toNatClampNeg) 2) - (σ (27 + n1) a2.toNatClampNeg))))
set_option maxRecDepth 100000 in
set_option maxHeartbeats 4000000 in
theorem wk_X1_roomLeft {l : Launch} {D : va_G} {E : ojE} {ad : Nat → Nat} {X : ojX} {Q : Int32 → State → Prop} (hc : ojC X (vO_ l D E ad) RX1 cX1_roomLeft 3 1) (σ : ojS) (hret : ojRr X (vO_ l D E ad) Q cX1_roomLeft .int σ) (n1 : Nat) (h1 : n1 < 4) (a2 : Int32) : ojJ X (vO_ l D E ad) Q (f_X1_roomLeft n1 a2 σ) σ 0 [(0, .ref (ad 9)), (1, .ref (ad (19 + n1))), (2, .int a2)] [] := by
  unfold f_X1_roomLeft
  refine oj_aload_n hc dX1_roomLeft_0 rfl 0 rfl ?_
  refine oj_getf hc ff_X1_11 oC_Fleet rfl dX1_roomLeft_1 ?_
  refine oj_iload_n hc dX1_roomLeft_4 rfl 2 rfl ?_
  refine oj_aald hc 3 oC_skimmers rfl dX1_roomLeft_5 (fun hi1 => ?_)
  refine oj_getf hc ff_X1_28 (oC_Skimmer hi1) rfl dX1_roomLeft_6 ?_
  refine oj_aload_n hc dX1_roomLeft_9 rfl 1 rfl ?_
  refine oj_getf hc ff_X1_38 (oC_Slick h1) rfl dX1_roomLeft_10 ?_
  refine oj_iload_n hc dX1_roomLeft_13 rfl 2 rfl ?_
  refine oj_iald hc 0 (oC_loads h1) rfl dX1_roomLeft_14 ?_
  refine oj_isub hc dX1_roomLeft_15 ?_
  exact hret _ _ _ rfl dX1_roomLeft_16
set_option maxRecDepth 100000 in
theorem c_X1_roomLeft {l : Launch} {D : va_G} {E : ojE} {ad : Nat → Nat} (n1 : Nat) (h1 : n1 < 4) (a2 : Int32) (σ : ojS) : ∀ (r : Int32), f_X1_roomLeft n1 a2 σ = some r → ojMi (vO_ l D E ad) yX1_roomLeft cX1_roomLeft 3 (some .int) 1 [.ref (ad 9), .ref (ad (19 + n1)), .int a2] σ r σ :=
  ojMi_R (by decide +kernel) rfl .int rfl (Nat.le_of_ble_eq_true rfl) rfl (fun X Q hc hret => wk_X1_roomLeft hc σ hret n1 h1 a2)

def f_X1_canTake (n1 : Nat) (a2 : Int32) (a3 : Int32) (σ : ojS) : Option (Int32) :=
  ojChk a2 4 (
    ojB1 (f_X1_roomLeft n1 a2 σ) (fun (r2 : Int32) =>
      ojLet (ojMin (σ (15 + a2.toNatClampNeg) 1) r2) (fun (x3 : Int32) =>
        ojChk a3 96 (
          some (ojMin x3 (σ (23 + n1) a3.toNatClampNeg))))))
set_option maxRecDepth 100000 in
set_option maxHeartbeats 4000000 in
theorem wk_X1_canTake {l : Launch} {D : va_G} {E : ojE} {ad : Nat → Nat} {X : ojX} {Q : Int32 → State → Prop} (hc : ojC X (vO_ l D E ad) RX1 cX1_canTake 5 2) (σ : ojS) (hret : ojRr X (vO_ l D E ad) Q cX1_canTake .int σ) (n1 : Nat) (h1 : n1 < 4) (a2 : Int32) (a3 : Int32) : ojJ X (vO_ l D E ad) Q (f_X1_canTake n1 a2 a3 σ) σ 0 [(0, .ref (ad 9)), (1, .ref (ad (19 + n1))), (2, .int a2), (3, .int a3)] [] := by
  unfold f_X1_canTake
  refine oj_aload_n hc dX1_canTake_0 rfl 0 rfl ?_
  refine oj_getf hc ff_X1_11 oC_Fleet rfl dX1_canTake_1 ?_
  refine oj_iload_n hc dX1_canTake_4 rfl 2 rfl ?_
  refine oj_aald hc 3 oC_skimmers rfl dX1_canTake_5 (fun hi1 => ?_)
  refine oj_getf hc ff_X1_25 (oC_Skimmer hi1) rfl dX1_canTake_6 ?_
  refine oj_aload_n hc dX1_canTake_9 rfl 0 rfl ?_
  refine oj_aload_n hc dX1_canTake_10 rfl 1 rfl ?_
  refine oj_iload_n hc dX1_canTake_11 rfl 2 rfl ?_
  refine oj_cV1 hc cv_X1_44 (by omega) oC_Fleet [.ref (ad (19 + n1)), .int a2] [.int (σ (15 + a2.toNatClampNeg) 1)] rfl rfl (Nat.le_of_ble_eq_true rfl) dX1_canTake_12 (c_X1_roomLeft n1 h1 a2 σ) (fun r2 => ?_)
  refine oj_mmin hc (by omega) mm_X1_48 mm_smin mm_ini mm_cmin (Nat.le_of_ble_eq_true rfl) dX1_canTake_15 ?_
  refine oj_nm (fun x3 => ?_)
  refine oj_istore hc [(0, .ref (ad 9)), (1, .ref (ad (19 + n1))), (2, .int a2), (3, .int a3), (4, .int x3)] rfl (by decide) dX1_canTake_18 ?_
  refine oj_iload hc dX1_canTake_20 4 rfl ?_
  refine oj_aload_n hc dX1_canTake_22 rfl 1 rfl ?_
  refine oj_getf hc ff_X1_54 (oC_Slick h1) rfl dX1_canTake_23 ?_
  refine oj_iload_n hc dX1_canTake_26 rfl 3 rfl ?_
  refine oj_iald hc 0 (oC_liters h1) rfl dX1_canTake_27 ?_
  refine oj_mmin hc (by omega) mm_X1_48 mm_smin mm_ini mm_cmin (Nat.le_of_ble_eq_true rfl) dX1_canTake_28 ?_
  exact hret _ _ _ rfl dX1_canTake_31
set_option maxRecDepth 100000 in
theorem c_X1_canTake {l : Launch} {D : va_G} {E : ojE} {ad : Nat → Nat} (n1 : Nat) (h1 : n1 < 4) (a2 : Int32) (a3 : Int32) (σ : ojS) : ∀ (r : Int32), f_X1_canTake n1 a2 a3 σ = some r → ojMi (vO_ l D E ad) yX1_canTake cX1_canTake 5 (some .int) 2 [.ref (ad 9), .ref (ad (19 + n1)), .int a2, .int a3] σ r σ :=
  ojMi_R (by decide +kernel) rfl .int rfl (Nat.le_of_ble_eq_true rfl) rfl (fun X Q hc hret => wk_X1_canTake hc σ hret n1 h1 a2 a3)

def f_X1_take (n1 : Nat) (a2 : Int32) (a3 : Int32) (σ : ojS) : Option (ojS) :=
  ojB1 (f_X1_canTake n1 a2 a3 σ) (fun (r1 : Int32) =>
    ojChk a3 96 (
      ojChk a3 96 (ojLet (ojU σ (23 + n1) a3.toNatClampNeg ((σ (23 + n1) a3.toNatClampNeg) - r1)) (fun (σ2 : ojS) =>
        ojChk a2 4 (
          ojChk a2 4 (ojLet (ojU σ2 (27 + n1) a2.toNatClampNeg ((σ2 (27 + n1) a2.toNatClampNeg) + r1)) (fun (σ3 : ojS) =>
            some σ3)))))))
set_option maxRecDepth 100000 in
set_option maxHeartbeats 4000000 in
theorem wk_X1_take {l : Launch} {D : va_G} {E : ojE} {ad : Nat → Nat} {X : ojX} {Q : ojS → State → Prop} (hc : ojC X (vO_ l D E ad) RX1 cX1_take 5 3) (hret : ojRv X (vO_ l D E ad) Q cX1_take) (n1 : Nat) (h1 : n1 < 4) (a2 : Int32) (a3 : Int32) (σ : ojS) : ojJ X (vO_ l D E ad) Q (f_X1_take n1 a2 a3 σ) σ 0 [(0, .ref (ad 9)), (1, .ref (ad (19 + n1))), (2, .int a2), (3, .int a3)] [] := by
  unfold f_X1_take
  refine oj_aload_n hc dX1_take_0 rfl 0 rfl ?_
  refine oj_aload_n hc dX1_take_1 rfl 1 rfl ?_
  refine oj_iload_n hc dX1_take_2 rfl 2 rfl ?_
  refine oj_iload_n hc dX1_take_3 rfl 3 rfl ?_
  refine oj_cV1 hc cv_X1_57 (by omega) oC_Fleet [.ref (ad (19 + n1)), .int a2, .int a3] [] rfl rfl (Nat.le_of_ble_eq_true rfl) dX1_take_4 (c_X1_canTake n1 h1 a2 a3 σ) (fun r1 => ?_)
  refine oj_istore hc [(0, .ref (ad 9)), (1, .ref (ad (19 + n1))), (2, .int a2), (3, .int a3), (4, .int r1)] rfl (by decide) dX1_take_7 ?_
  refine oj_aload_n hc dX1_take_9 rfl 1 rfl ?_
  refine oj_getf hc ff_X1_54 (oC_Slick h1) rfl dX1_take_10 ?_
  refine oj_iload_n hc dX1_take_13 rfl 3 rfl ?_
  refine oj_dup2 hc dX1_take_14 rfl rfl ?_
  refine oj_iald hc 0 (oC_liters h1) rfl dX1_take_15 ?_
  refine oj_iload hc dX1_take_16 4 rfl ?_
  refine oj_isub hc dX1_take_18 ?_
  refine oj_iast hc 0 (oC_liters h1) (oC_liters_s h1) rfl rfl dX1_take_19 (fun σ2 => ?_)
  refine oj_aload_n hc dX1_take_20 rfl 1 rfl ?_
  refine oj_getf hc ff_X1_38 (oC_Slick h1) rfl dX1_take_21 ?_
  refine oj_iload_n hc dX1_take_24 rfl 2 rfl ?_
  refine oj_dup2 hc dX1_take_25 rfl rfl ?_
  refine oj_iald hc 0 (oC_loads h1) rfl dX1_take_26 ?_
  refine oj_iload hc dX1_take_27 4 rfl ?_
  refine oj_iadd hc dX1_take_29 ?_
  refine oj_iast hc 0 (oC_loads h1) (oC_loads_s h1) rfl rfl dX1_take_30 (fun σ3 => ?_)
  exact hret _ _ _ dX1_take_31
set_option maxRecDepth 100000 in
theorem c_X1_take {l : Launch} {D : va_G} {E : ojE} {ad : Nat → Nat} (n1 : Nat) (h1 : n1 < 4) (a2 : Int32) (a3 : Int32) (σ : ojS) : ∀ (σ1 : ojS), f_X1_take n1 a2 a3 σ = some σ1 → ojMv (vO_ l D E ad) yX1_take cX1_take 5 none 3 [.ref (ad 9), .ref (ad (19 + n1)), .int a2, .int a3] σ σ1 :=
  ojMv_W (by decide +kernel) rfl rfl (Nat.le_of_ble_eq_true rfl) rfl (fun X Q hc hret => wk_X1_take hc hret n1 h1 a2 a3 σ)

def f_X1_skim_3 (n1 : Nat) (a3 : Int32) (a4 : Int32) (σ : ojS) : Option (ojS) :=
  ojFix (fun _ _ => none) 600 (fun (rec_3 : Int32 → ojS → Option (ojS)) (v4_3 : Int32) (σ_3 : ojS) =>
    if a3 ≤ v4_3 then
      some σ_3
    else
      ojChk v4_3 4 (
        ojBv (f_X1_take n1 v4_3 (σ_3 (15 + v4_3.toNatClampNeg) 0) σ_3) (fun (σ3 : ojS) =>
          ojLet (v4_3 + 1) (fun (x4 : Int32) =>
            rec_3 x4 σ3)))) a4 σ
set_option maxRecDepth 100000 in
set_option maxHeartbeats 4000000 in
theorem wk_X1_skim_3 {l : Launch} {D : va_G} {E : ojE} {ad : Nat → Nat} {X : ojX} {Q : ojS → State → Prop} (hc : ojC X (vO_ l D E ad) RX1 cX1_skim 5 4) (hret : ojRv X (vO_ l D E ad) Q cX1_skim) (n1 : Nat) (h1 : n1 < 4) (a3 : Int32) (a4 : Int32) (σ : ojS) : ojJ X (vO_ l D E ad) Q (f_X1_skim_3 n1 a3 a4 σ) σ 3 [(0, .ref (ad 9)), (1, .ref (ad (19 + n1))), (3, .int a3), (4, .int a4)] [] := by
  unfold f_X1_skim_3
  refine oj_fix (fun (r : Int32 → ojS → Option (ojS)) => ∀ (v4_3 : Int32) (σ_3 : ojS), ojJ X (vO_ l D E ad) Q (r v4_3 σ_3) σ_3 3 [(0, .ref (ad 9)), (1, .ref (ad (19 + n1))), (3, .int a3), (4, .int v4_3)] []) _ (fun _ _ => oj_none) (fun rec_3 hrec_3 v4_3 σ_3 => ?_) 600 a4 σ
  refine oj_iload hc dX1_skim_3 3 rfl ?_
  refine oj_iload_n hc dX1_skim_5 rfl 2 rfl ?_
  refine oj_icmp_ge hc 32 dX1_skim_6 (by decide) (fun _ => ?_) ?_
  · exact hret _ _ _ dX1_skim_32
  · refine oj_aload_n hc dX1_skim_9 rfl 0 rfl ?_
    refine oj_aload_n hc dX1_skim_10 rfl 1 rfl ?_
    refine oj_iload hc dX1_skim_11 3 rfl ?_
    refine oj_aload_n hc dX1_skim_13 rfl 0 rfl ?_
    refine oj_getf hc ff_X1_11 oC_Fleet rfl dX1_skim_14 ?_
    refine oj_iload hc dX1_skim_17 3 rfl ?_
    refine oj_aald hc 3 oC_skimmers rfl dX1_skim_19 (fun hi1 => ?_)
    refine oj_getf hc ff_X1_22 (oC_Skimmer hi1) rfl dX1_skim_20 ?_
    refine oj_cVv hc cv_X1_61 (by omega) oC_Fleet [.ref (ad (19 + n1)), .int v4_3, .int (σ_3 (15 + v4_3.toNatClampNeg) 0)] [] rfl rfl (Nat.le_of_ble_eq_true rfl) dX1_skim_23 (c_X1_take n1 h1 v4_3 (σ_3 (15 + v4_3.toNatClampNeg) 0) σ_3) (fun σ3 => ?_)
    refine oj_iinc hc 1 (fun u => [(0, .ref (ad 9)), (1, .ref (ad (19 + n1))), (3, .int a3), (4, .int u)]) 3 rfl kc_1 (fun _ => rfl) (by decide) dX1_skim_26 (fun x4 => ?_)
    refine oj_goto hc 3 dX1_skim_29 (by decide) ?_
    exact hrec_3 x4 σ3
def f_X1_skim (n1 : Nat) (a2 : Int32) (a3 : Int32) (σ : ojS) : Option (ojS) :=
  f_X1_skim_3 n1 a3 a2 σ
set_option maxRecDepth 100000 in
set_option maxHeartbeats 4000000 in
theorem wk_X1_skim {l : Launch} {D : va_G} {E : ojE} {ad : Nat → Nat} {X : ojX} {Q : ojS → State → Prop} (hc : ojC X (vO_ l D E ad) RX1 cX1_skim 5 4) (hret : ojRv X (vO_ l D E ad) Q cX1_skim) (n1 : Nat) (h1 : n1 < 4) (a2 : Int32) (a3 : Int32) (σ : ojS) : ojJ X (vO_ l D E ad) Q (f_X1_skim n1 a2 a3 σ) σ 0 [(0, .ref (ad 9)), (1, .ref (ad (19 + n1))), (2, .int a2), (3, .int a3)] [] := by
  unfold f_X1_skim
  refine oj_iload_n hc dX1_skim_0 rfl 2 rfl ?_
  refine oj_istore hc [(0, .ref (ad 9)), (1, .ref (ad (19 + n1))), (2, .int a2), (3, .int a3), (4, .int a2)] rfl (by decide) dX1_skim_1 ?_
  refine oj_sub [0, 1, 3, 4] rfl ?_
  exact wk_X1_skim_3 hc hret n1 h1 a3 a2 σ
set_option maxRecDepth 100000 in
theorem c_X1_skim {l : Launch} {D : va_G} {E : ojE} {ad : Nat → Nat} (n1 : Nat) (h1 : n1 < 4) (a2 : Int32) (a3 : Int32) (σ : ojS) : ∀ (σ1 : ojS), f_X1_skim n1 a2 a3 σ = some σ1 → ojMv (vO_ l D E ad) yX1_skim cX1_skim 5 none 4 [.ref (ad 9), .ref (ad (19 + n1)), .int a2, .int a3] σ σ1 :=
  ojMv_W (by decide +kernel) rfl rfl (Nat.le_of_ble_eq_true rfl) rfl (fun X Q hc hret => wk_X1_skim hc hret n1 h1 a2 a3 σ)

def f_X1_beginHour_2 (a1 : Int32) (σ : ojS) : Option (ojS) :=
  ojFix (fun _ _ => none) 600 (fun (rec_2 : Int32 → ojS → Option (ojS)) (v1_2 : Int32) (σ_2 : ojS) =>
    if (σ_2 9 1) ≤ v1_2 then
      some σ_2
    else
      ojChk v1_2 4 (
        ojLet (ojU σ_2 (15 + v1_2.toNatClampNeg) 5 0) (fun (σ2 : ojS) =>
          ojLet (v1_2 + 1) (fun (x3 : Int32) =>
            rec_2 x3 σ2)))) a1 σ
set_option maxRecDepth 100000 in
set_option maxHeartbeats 4000000 in
theorem wk_X1_beginHour_2 {l : Launch} {D : va_G} {E : ojE} {ad : Nat → Nat} {X : ojX} {Q : ojS → State → Prop} (hc : ojC X (vO_ l D E ad) RX1 cX1_beginHour 2 1) (hret : ojRv X (vO_ l D E ad) Q cX1_beginHour) (a1 : Int32) (σ : ojS) : ojJ X (vO_ l D E ad) Q (f_X1_beginHour_2 a1 σ) σ 2 [(0, .ref (ad 9)), (1, .int a1)] [] := by
  unfold f_X1_beginHour_2
  refine oj_fix (fun (r : Int32 → ojS → Option (ojS)) => ∀ (v1_2 : Int32) (σ_2 : ojS), ojJ X (vO_ l D E ad) Q (r v1_2 σ_2) σ_2 2 [(0, .ref (ad 9)), (1, .int v1_2)] []) _ (fun _ _ => oj_none) (fun rec_2 hrec_2 v1_2 σ_2 => ?_) 600 a1 σ
  refine oj_iload_n hc dX1_beginHour_2 rfl 1 rfl ?_
  refine oj_aload_n hc dX1_beginHour_3 rfl 0 rfl ?_
  refine oj_getf hc ff_X1_18 oC_Fleet rfl dX1_beginHour_4 ?_
  refine oj_icmp_ge hc 26 dX1_beginHour_7 (by decide) (fun _ => ?_) ?_
  · exact hret _ _ _ dX1_beginHour_26
  · refine oj_aload_n hc dX1_beginHour_10 rfl 0 rfl ?_
    refine oj_getf hc ff_X1_11 oC_Fleet rfl dX1_beginHour_11 ?_
    refine oj_iload_n hc dX1_beginHour_14 rfl 1 rfl ?_
    refine oj_aald hc 3 oC_skimmers rfl dX1_beginHour_15 (fun hi1 => ?_)
    refine oj_iconst hc 0 dX1_beginHour_16 kc_0 ?_
    refine oj_putf hc fp_X1_34 (oC_Skimmer hi1) (oC_Skimmer_s5 hi1) rfl rfl (Nat.le_of_ble_eq_true rfl) dX1_beginHour_17 (fun σ2 => ?_)
    refine oj_iinc hc 1 (fun u => [(0, .ref (ad 9)), (1, .int u)]) 1 rfl kc_1 (fun _ => rfl) (by decide) dX1_beginHour_20 (fun x3 => ?_)
    refine oj_goto hc 2 dX1_beginHour_23 (by decide) ?_
    exact hrec_2 x3 σ2
def f_X1_beginHour (σ : ojS) : Option (ojS) :=
  f_X1_beginHour_2 0 σ
set_option maxRecDepth 100000 in
set_option maxHeartbeats 4000000 in
theorem wk_X1_beginHour {l : Launch} {D : va_G} {E : ojE} {ad : Nat → Nat} {X : ojX} {Q : ojS → State → Prop} (hc : ojC X (vO_ l D E ad) RX1 cX1_beginHour 2 1) (hret : ojRv X (vO_ l D E ad) Q cX1_beginHour)  (σ : ojS) : ojJ X (vO_ l D E ad) Q (f_X1_beginHour σ) σ 0 [(0, .ref (ad 9))] [] := by
  unfold f_X1_beginHour
  refine oj_iconst hc 0 dX1_beginHour_0 kc_0 ?_
  refine oj_istore_n hc [(0, .ref (ad 9)), (1, .int 0)] rfl (by decide) dX1_beginHour_1 rfl ?_
  exact wk_X1_beginHour_2 hc hret 0 σ
set_option maxRecDepth 100000 in
theorem c_X1_beginHour {l : Launch} {D : va_G} {E : ojE} {ad : Nat → Nat}  (σ : ojS) : ∀ (σ1 : ojS), f_X1_beginHour σ = some σ1 → ojMv (vO_ l D E ad) yX1_beginHour cX1_beginHour 2 none 1 [.ref (ad 9)] σ σ1 :=
  ojMv_W (by decide +kernel) rfl rfl (Nat.le_of_ble_eq_true rfl) rfl (fun X Q hc hret => wk_X1_beginHour hc hret σ)

def f_X7_become (n0 : Nat) (n1 : Nat) (σ : ojS) : Option (ojS) :=
  ojLet (ojW σ (23 + n0) (va_cpy (σ (23 + n1)) (σ (23 + n0)) (0 : Int32).toNatClampNeg (0 : Int32).toNatClampNeg (96 : Int32).toNatClampNeg)) (fun (σ1 : ojS) =>
    ojLet (ojW σ1 (27 + n0) (va_cpy (σ1 (27 + n1)) (σ1 (27 + n0)) (0 : Int32).toNatClampNeg (0 : Int32).toNatClampNeg (4 : Int32).toNatClampNeg)) (fun (σ2 : ojS) =>
      ojLet (ojU σ2 (19 + n0) 2 (σ2 (19 + n1) 2)) (fun (σ3 : ojS) =>
        ojLet (ojU σ3 (19 + n0) 3 (σ3 (19 + n1) 3)) (fun (σ4 : ojS) =>
          some σ4))))
set_option maxRecDepth 100000 in
set_option maxHeartbeats 4000000 in
theorem wk_X7_become {l : Launch} {D : va_G} {E : ojE} {ad : Nat → Nat} {X : ojX} {Q : ojS → State → Prop} (hc : ojC X (vO_ l D E ad) RX7 cX7_become 2 1) (hret : ojRv X (vO_ l D E ad) Q cX7_become) (n0 : Nat) (h0 : n0 < 4) (n1 : Nat) (h1 : n1 < 4) (σ : ojS) : ojJ X (vO_ l D E ad) Q (f_X7_become n0 n1 σ) σ 0 [(0, .ref (ad (19 + n0))), (1, .ref (ad (19 + n1)))] [] := by
  unfold f_X7_become
  refine oj_aload_n hc dX7_become_0 rfl 1 rfl ?_
  refine oj_getf hc ff_X7_9 (oC_Slick h1) rfl dX7_become_1 ?_
  refine oj_iconst hc 0 dX7_become_4 kc_0 ?_
  refine oj_aload_n hc dX7_become_5 rfl 0 rfl ?_
  refine oj_getf hc ff_X7_9 (oC_Slick h0) rfl dX7_become_6 ?_
  refine oj_iconst hc 0 dX7_become_9 kc_0 ?_
  refine oj_bipush hc 96 dX7_become_10 kb_96 ?_
  refine oj_copyi hc (by omega) mm_X7_18 mm_n mm_sarraycopy mm_inis (oC_liters h1) (oC_liters h0) (oC_liters_s h0) rfl 96 (by decide) (by decide) (Nat.le_of_ble_eq_true rfl) dX7_become_12 (fun σ1 => ?_)
  refine oj_aload_n hc dX7_become_15 rfl 1 rfl ?_
  refine oj_getf hc ff_X7_15 (oC_Slick h1) rfl dX7_become_16 ?_
  refine oj_iconst hc 0 dX7_become_19 kc_0 ?_
  refine oj_aload_n hc dX7_become_20 rfl 0 rfl ?_
  refine oj_getf hc ff_X7_15 (oC_Slick h0) rfl dX7_become_21 ?_
  refine oj_iconst hc 0 dX7_become_24 kc_0 ?_
  refine oj_iconst hc 4 dX7_become_25 kc_4 ?_
  refine oj_copyi hc (by omega) mm_X7_18 mm_n mm_sarraycopy mm_inis (oC_loads h1) (oC_loads h0) (oC_loads_s h0) rfl 4 (by decide) (by decide) (Nat.le_of_ble_eq_true rfl) dX7_become_26 (fun σ2 => ?_)
  refine oj_aload_n hc dX7_become_29 rfl 0 rfl ?_
  refine oj_aload_n hc dX7_become_30 rfl 1 rfl ?_
  refine oj_getf hc ff_X7_24 (oC_Slick h1) rfl dX7_become_31 ?_
  refine oj_putf hc fp_X7_24 (oC_Slick h0) (oC_Slick_s2 h0) rfl rfl (Nat.le_of_ble_eq_true rfl) dX7_become_34 (fun σ3 => ?_)
  refine oj_aload_n hc dX7_become_37 rfl 0 rfl ?_
  refine oj_aload_n hc dX7_become_38 rfl 1 rfl ?_
  refine oj_getf hc ff_X7_28 (oC_Slick h1) rfl dX7_become_39 ?_
  refine oj_putf hc fp_X7_28 (oC_Slick h0) (oC_Slick_s3 h0) rfl rfl (Nat.le_of_ble_eq_true rfl) dX7_become_42 (fun σ4 => ?_)
  exact hret _ _ _ dX7_become_45
set_option maxRecDepth 100000 in
theorem c_X7_become {l : Launch} {D : va_G} {E : ojE} {ad : Nat → Nat} (n0 : Nat) (h0 : n0 < 4) (n1 : Nat) (h1 : n1 < 4) (σ : ojS) : ∀ (σ1 : ojS), f_X7_become n0 n1 σ = some σ1 → ojMv (vO_ l D E ad) yX7_become cX7_become 2 none 1 [.ref (ad (19 + n0)), .ref (ad (19 + n1))] σ σ1 :=
  ojMv_W (by decide +kernel) rfl rfl (Nat.le_of_ble_eq_true rfl) rfl (fun X Q hc hret => wk_X7_become hc hret n0 h0 n1 h1 σ)

def f_X3_begin (a1 : Int32) (a2 : Int32) (σ : ojS) : Option (ojS) :=
  ojLet (ojU σ 12 0 a1) (fun (σ1 : ojS) =>
    ojLet (ojU σ1 12 1 a2) (fun (σ2 : ojS) =>
      ojLet (ojU σ2 12 2 (-1)) (fun (σ3 : ojS) =>
        ojLet (ojU σ3 12 3 (-1)) (fun (σ4 : ojS) =>
          ojLet (ojU σ4 12 4 (-1)) (fun (σ5 : ojS) =>
            some σ5)))))
set_option maxRecDepth 100000 in
set_option maxHeartbeats 4000000 in
theorem wk_X3_begin {l : Launch} {D : va_G} {E : ojE} {ad : Nat → Nat} {X : ojX} {Q : ojS → State → Prop} (hc : ojC X (vO_ l D E ad) RX3 cX3_begin 3 1) (hret : ojRv X (vO_ l D E ad) Q cX3_begin) (a1 : Int32) (a2 : Int32) (σ : ojS) : ojJ X (vO_ l D E ad) Q (f_X3_begin a1 a2 σ) σ 0 [(0, .ref (ad 12)), (1, .int a1), (2, .int a2)] [] := by
  unfold f_X3_begin
  refine oj_aload_n hc dX3_begin_0 rfl 0 rfl ?_
  refine oj_iload_n hc dX3_begin_1 rfl 1 rfl ?_
  refine oj_putf hc fp_X3_9 oC_Outing oC_Outing_s0 rfl rfl (Nat.le_of_ble_eq_true rfl) dX3_begin_2 (fun σ1 => ?_)
  refine oj_aload_n hc dX3_begin_5 rfl 0 rfl ?_
  refine oj_iload_n hc dX3_begin_6 rfl 2 rfl ?_
  refine oj_putf hc fp_X3_15 oC_Outing oC_Outing_s1 rfl rfl (Nat.le_of_ble_eq_true rfl) dX3_begin_7 (fun σ2 => ?_)
  refine oj_aload_n hc dX3_begin_10 rfl 0 rfl ?_
  refine oj_iconst hc (-1) dX3_begin_11 kc_m1 ?_
  refine oj_putf hc fp_X3_18 oC_Outing oC_Outing_s2 rfl rfl (Nat.le_of_ble_eq_true rfl) dX3_begin_12 (fun σ3 => ?_)
  refine oj_aload_n hc dX3_begin_15 rfl 0 rfl ?_
  refine oj_iconst hc (-1) dX3_begin_16 kc_m1 ?_
  refine oj_putf hc fp_X3_21 oC_Outing oC_Outing_s3 rfl rfl (Nat.le_of_ble_eq_true rfl) dX3_begin_17 (fun σ4 => ?_)
  refine oj_aload_n hc dX3_begin_20 rfl 0 rfl ?_
  refine oj_iconst hc (-1) dX3_begin_21 kc_m1 ?_
  refine oj_putf hc fp_X3_24 oC_Outing oC_Outing_s4 rfl rfl (Nat.le_of_ble_eq_true rfl) dX3_begin_22 (fun σ5 => ?_)
  exact hret _ _ _ dX3_begin_25
set_option maxRecDepth 100000 in
theorem c_X3_begin {l : Launch} {D : va_G} {E : ojE} {ad : Nat → Nat} (a1 : Int32) (a2 : Int32) (σ : ojS) : ∀ (σ1 : ojS), f_X3_begin a1 a2 σ = some σ1 → ojMv (vO_ l D E ad) yX3_begin cX3_begin 3 none 1 [.ref (ad 12), .int a1, .int a2] σ σ1 :=
  ojMv_W (by decide +kernel) rfl rfl (Nat.le_of_ble_eq_true rfl) rfl (fun X Q hc hret => wk_X3_begin hc hret a1 a2 σ)
