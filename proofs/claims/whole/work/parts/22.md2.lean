def f_X9_nearBy_46 (rec_3 : Int32 → Option (Int32)) (a1 : Int32) (a2 : Int32) (a3 : Int32) (a4 : Int32) (a5 : Int32) (a6 : Int32) (σ : ojS) : Option (Int32) :=
  ojFix (fun _ => none) 600 (fun (rec_46 : Int32 → Option (Int32)) (v6_46 : Int32) =>
    if 4 < v6_46 then
      ojLet (a4 + 1) (fun (x4 : Int32) =>
        rec_3 x4)
    else
      if a3 ≤ 1 then
        ojLet (a4 + 1) (fun (x5 : Int32) =>
          rec_3 x5)
      else
        ojB1 (f_X9_step a5 v6_46) (fun (r6 : Int32) =>
          if r6 = a2 then
            some 1
          else
            ojLet (v6_46 + 1) (fun (x7 : Int32) =>
              rec_46 x7))) a6
set_option maxRecDepth 100000 in
set_option maxHeartbeats 4000000 in
theorem wk_X9_nearBy_46 {l : Launch} {D : va_G} {E : ojE} {ad : Nat → Nat} {X : ojX} {Q : Int32 → State → Prop} (hc : ojC X (vM_ l D E ad) RX9 cX9_nearBy 7 4) (σ : ojS) (hret : ojRr X (vM_ l D E ad) Q cX9_nearBy .boolean σ) (rec_3 : Int32 → Option (Int32)) (a1 : Int32) (a2 : Int32) (a3 : Int32) (a4 : Int32) (a5 : Int32) (a6 : Int32) (hrec_3 : ∀ (v4_3 : Int32), ojJ X (vM_ l D E ad) Q (rec_3 v4_3) σ 3 [(0, .ref (ad 0)), (1, .int a1), (2, .int a2), (3, .int a3), (4, .int v4_3)] []) : ojJ X (vM_ l D E ad) Q (f_X9_nearBy_46 rec_3 a1 a2 a3 a4 a5 a6 σ) σ 46 [(0, .ref (ad 0)), (1, .int a1), (2, .int a2), (3, .int a3), (4, .int a4), (5, .int a5), (6, .int a6)] [] := by
  unfold f_X9_nearBy_46
  refine oj_fix (fun (r : Int32 → Option (Int32)) => ∀ (v6_46 : Int32), ojJ X (vM_ l D E ad) Q (r v6_46) σ 46 [(0, .ref (ad 0)), (1, .int a1), (2, .int a2), (3, .int a3), (4, .int a4), (5, .int a5), (6, .int v6_46)] []) _ (fun _ => oj_none) (fun rec_46 hrec_46 v6_46 => ?_) 600 a6
  refine oj_iload hc dX9_nearBy_46 6 rfl ?_
  refine oj_iconst hc 4 dX9_nearBy_48 kc_4 ?_
  refine oj_icmp_gt hc 76 dX9_nearBy_49 (by decide) (fun _ => ?_) ?_
  · refine oj_iinc hc 1 (fun u => [(0, .ref (ad 0)), (1, .int a1), (2, .int a2), (3, .int a3), (4, .int u), (5, .int a5), (6, .int v6_46)]) 4 rfl kc_1 (fun _ => rfl) (by decide) dX9_nearBy_76 (fun x4 => ?_)
    refine oj_goto hc 3 dX9_nearBy_79 (by decide) ?_
    refine oj_sub [0, 1, 2, 3, 4] rfl ?_
    exact hrec_3 x4
  · refine oj_iload_n hc dX9_nearBy_52 rfl 3 rfl ?_
    refine oj_iconst hc 1 dX9_nearBy_53 kc_1 ?_
    refine oj_icmp_le hc 76 dX9_nearBy_54 (by decide) (fun _ => ?_) ?_
    · refine oj_iinc hc 1 (fun u => [(0, .ref (ad 0)), (1, .int a1), (2, .int a2), (3, .int a3), (4, .int u), (5, .int a5), (6, .int v6_46)]) 4 rfl kc_1 (fun _ => rfl) (by decide) dX9_nearBy_76 (fun x5 => ?_)
      refine oj_goto hc 3 dX9_nearBy_79 (by decide) ?_
      refine oj_sub [0, 1, 2, 3, 4] rfl ?_
      exact hrec_3 x5
    · refine oj_iload hc dX9_nearBy_57 5 rfl ?_
      refine oj_iload hc dX9_nearBy_59 6 rfl ?_
      refine oj_cS1 hc cs_X9_126 (by omega) [.int a5, .int v6_46] [] rfl rfl (Nat.le_of_ble_eq_true rfl) dX9_nearBy_61 (c_X9_step a5 v6_46 σ) (fun r6 => ?_)
      refine oj_iload_n hc dX9_nearBy_64 rfl 2 rfl ?_
      refine oj_icmp_ne hc 70 dX9_nearBy_65 (by decide) ?_ (fun _ => ?_)
      · refine oj_iinc hc 1 (fun u => [(0, .ref (ad 0)), (1, .int a1), (2, .int a2), (3, .int a3), (4, .int a4), (5, .int a5), (6, .int u)]) 6 rfl kc_1 (fun _ => rfl) (by decide) dX9_nearBy_70 (fun x7 => ?_)
        refine oj_goto hc 46 dX9_nearBy_73 (by decide) ?_
        exact hrec_46 x7
      · refine oj_iconst hc 1 dX9_nearBy_68 kc_1 ?_
        exact hret _ _ _ rfl dX9_nearBy_69
def f_X9_nearBy_3 (a1 : Int32) (a2 : Int32) (a3 : Int32) (a4 : Int32) (σ : ojS) : Option (Int32) :=
  ojFix (fun _ => none) 600 (fun (rec_3 : Int32 → Option (Int32)) (v4_3 : Int32) =>
    if 4 < v4_3 then
      some 0
    else
      ojB1 (f_X9_step a1 v4_3) (fun (r1 : Int32) =>
        if r1 = (-1) then
          ojLet (v4_3 + 1) (fun (x2 : Int32) =>
            rec_3 x2)
        else
          ojB1 (f_X9_isSea r1 σ) (fun (r3 : Int32) =>
            if r3 = 0 then
              ojLet (v4_3 + 1) (fun (x8 : Int32) =>
                rec_3 x8)
            else
              if r1 = a2 then
                some 1
              else
                f_X9_nearBy_46 rec_3 a1 a2 a3 v4_3 r1 1 σ))) a4
set_option maxRecDepth 100000 in
set_option maxHeartbeats 4000000 in
theorem wk_X9_nearBy_3 {l : Launch} {D : va_G} {E : ojE} {ad : Nat → Nat} {X : ojX} {Q : Int32 → State → Prop} (hc : ojC X (vM_ l D E ad) RX9 cX9_nearBy 7 4) (σ : ojS) (hret : ojRr X (vM_ l D E ad) Q cX9_nearBy .boolean σ) (a1 : Int32) (a2 : Int32) (a3 : Int32) (a4 : Int32) : ojJ X (vM_ l D E ad) Q (f_X9_nearBy_3 a1 a2 a3 a4 σ) σ 3 [(0, .ref (ad 0)), (1, .int a1), (2, .int a2), (3, .int a3), (4, .int a4)] [] := by
  unfold f_X9_nearBy_3
  refine oj_fix (fun (r : Int32 → Option (Int32)) => ∀ (v4_3 : Int32), ojJ X (vM_ l D E ad) Q (r v4_3) σ 3 [(0, .ref (ad 0)), (1, .int a1), (2, .int a2), (3, .int a3), (4, .int v4_3)] []) _ (fun _ => oj_none) (fun rec_3 hrec_3 v4_3 => ?_) 600 a4
  refine oj_iload hc dX9_nearBy_3 4 rfl ?_
  refine oj_iconst hc 4 dX9_nearBy_5 kc_4 ?_
  refine oj_icmp_gt hc 82 dX9_nearBy_6 (by decide) (fun _ => ?_) ?_
  · refine oj_iconst hc 0 dX9_nearBy_82 kc_0 ?_
    exact hret _ _ _ rfl dX9_nearBy_83
  · refine oj_iload_n hc dX9_nearBy_9 rfl 1 rfl ?_
    refine oj_iload hc dX9_nearBy_10 4 rfl ?_
    refine oj_cS1 hc cs_X9_126 (by omega) [.int a1, .int v4_3] [] rfl rfl (Nat.le_of_ble_eq_true rfl) dX9_nearBy_12 (c_X9_step a1 v4_3 σ) (fun r1 => ?_)
    refine oj_istore hc [(0, .ref (ad 0)), (1, .int a1), (2, .int a2), (3, .int a3), (4, .int v4_3), (5, .int r1)] rfl (by decide) dX9_nearBy_15 ?_
    refine oj_iload hc dX9_nearBy_17 5 rfl ?_
    refine oj_iconst hc (-1) dX9_nearBy_19 kc_m1 ?_
    refine oj_icmp_eq hc 76 dX9_nearBy_20 (by decide) (fun _ => ?_) ?_
    · refine oj_iinc hc 1 (fun u => [(0, .ref (ad 0)), (1, .int a1), (2, .int a2), (3, .int a3), (4, .int u), (5, .int r1)]) 4 rfl kc_1 (fun _ => rfl) (by decide) dX9_nearBy_76 (fun x2 => ?_)
      refine oj_goto hc 3 dX9_nearBy_79 (by decide) ?_
      refine oj_sub [0, 1, 2, 3, 4] rfl ?_
      exact hrec_3 x2
    · refine oj_aload_n hc dX9_nearBy_23 rfl 0 rfl ?_
      refine oj_iload hc dX9_nearBy_24 5 rfl ?_
      refine oj_cV1 hc cv_X9_110 (by omega) mC_Model [.int r1] [] rfl rfl (Nat.le_of_ble_eq_true rfl) dX9_nearBy_26 (c_X9_isSea r1 σ) (fun r3 => ?_)
      refine oj_if_ne hc 35 dX9_nearBy_29 (by decide) ?_ (fun _ => ?_)
      · refine oj_iload hc dX9_nearBy_35 5 rfl ?_
        refine oj_iload_n hc dX9_nearBy_37 rfl 2 rfl ?_
        refine oj_icmp_ne hc 43 dX9_nearBy_38 (by decide) ?_ (fun _ => ?_)
        · refine oj_iconst hc 1 dX9_nearBy_43 kc_1 ?_
          refine oj_istore hc [(0, .ref (ad 0)), (1, .int a1), (2, .int a2), (3, .int a3), (4, .int v4_3), (5, .int r1), (6, .int 1)] rfl (by decide) dX9_nearBy_44 ?_
          exact wk_X9_nearBy_46 hc _ hret rec_3 a1 a2 a3 v4_3 r1 1 hrec_3
        · refine oj_iconst hc 1 dX9_nearBy_41 kc_1 ?_
          exact hret _ _ _ rfl dX9_nearBy_42
      · refine oj_goto hc 76 dX9_nearBy_32 (by decide) ?_
        refine oj_iinc hc 1 (fun u => [(0, .ref (ad 0)), (1, .int a1), (2, .int a2), (3, .int a3), (4, .int u), (5, .int r1)]) 4 rfl kc_1 (fun _ => rfl) (by decide) dX9_nearBy_76 (fun x8 => ?_)
        refine oj_goto hc 3 dX9_nearBy_79 (by decide) ?_
        refine oj_sub [0, 1, 2, 3, 4] rfl ?_
        exact hrec_3 x8
def f_X9_nearBy (a1 : Int32) (a2 : Int32) (a3 : Int32) (σ : ojS) : Option (Int32) :=
  f_X9_nearBy_3 a1 a2 a3 1 σ
set_option maxRecDepth 100000 in
set_option maxHeartbeats 4000000 in
theorem wk_X9_nearBy {l : Launch} {D : va_G} {E : ojE} {ad : Nat → Nat} {X : ojX} {Q : Int32 → State → Prop} (hc : ojC X (vM_ l D E ad) RX9 cX9_nearBy 7 4) (σ : ojS) (hret : ojRr X (vM_ l D E ad) Q cX9_nearBy .boolean σ) (a1 : Int32) (a2 : Int32) (a3 : Int32) : ojJ X (vM_ l D E ad) Q (f_X9_nearBy a1 a2 a3 σ) σ 0 [(0, .ref (ad 0)), (1, .int a1), (2, .int a2), (3, .int a3)] [] := by
  unfold f_X9_nearBy
  refine oj_iconst hc 1 dX9_nearBy_0 kc_1 ?_
  refine oj_istore hc [(0, .ref (ad 0)), (1, .int a1), (2, .int a2), (3, .int a3), (4, .int 1)] rfl (by decide) dX9_nearBy_1 ?_
  exact wk_X9_nearBy_3 hc _ hret a1 a2 a3 1
set_option maxRecDepth 100000 in
theorem c_X9_nearBy {l : Launch} {D : va_G} {E : ojE} {ad : Nat → Nat} (a1 : Int32) (a2 : Int32) (a3 : Int32) (σ : ojS) : ∀ (r : Int32), f_X9_nearBy a1 a2 a3 σ = some r → ojMi (vM_ l D E ad) yX9_nearBy cX9_nearBy 7 (some .boolean) 4 [.ref (ad 0), .int a1, .int a2, .int a3] σ r σ :=
  ojMi_R (by decide +kernel) rfl .boolean rfl (Nat.le_of_ble_eq_true rfl) rfl (fun X Q hc hret => wk_X9_nearBy hc σ hret a1 a2 a3)

def f_X9_canGo_10 (a1 : Int32) (a2 : Int32) (a3 : Int32) (a4 : Int32) (σ : ojS) : Option (Int32) :=
  ojFix (fun _ => none) 600 (fun (rec_10 : Int32 → Option (Int32)) (v4_10 : Int32) =>
    if 4 < v4_10 then
      some 0
    else
      if a3 ≤ 0 then
        some 0
      else
        ojB1 (f_X9_step a1 v4_10) (fun (r1 : Int32) =>
          if r1 = (-1) then
            ojLet (v4_10 + 1) (fun (x2 : Int32) =>
              rec_10 x2)
          else
            ojB1 (f_X9_isSea r1 σ) (fun (r3 : Int32) =>
              if r3 = 0 then
                ojLet (v4_10 + 1) (fun (x7 : Int32) =>
                  rec_10 x7)
              else
                if r1 = a2 then
                  some 1
                else
                  if a3 ≤ 1 then
                    ojLet (v4_10 + 1) (fun (x4 : Int32) =>
                      rec_10 x4)
                  else
                    ojB1 (f_X9_nearBy r1 a2 (a3 - 1) σ) (fun (r5 : Int32) =>
                      if r5 = 0 then
                        ojLet (v4_10 + 1) (fun (x6 : Int32) =>
                          rec_10 x6)
                      else
                        some 1)))) a4
set_option maxRecDepth 100000 in
set_option maxHeartbeats 4000000 in
theorem wk_X9_canGo_10 {l : Launch} {D : va_G} {E : ojE} {ad : Nat → Nat} {X : ojX} {Q : Int32 → State → Prop} (hc : ojC X (vM_ l D E ad) RX9 cX9_canGo 6 5) (σ : ojS) (hret : ojRr X (vM_ l D E ad) Q cX9_canGo .boolean σ) (a1 : Int32) (a2 : Int32) (a3 : Int32) (a4 : Int32) : ojJ X (vM_ l D E ad) Q (f_X9_canGo_10 a1 a2 a3 a4 σ) σ 10 [(0, .ref (ad 0)), (1, .int a1), (2, .int a2), (3, .int a3), (4, .int a4)] [] := by
  unfold f_X9_canGo_10
  refine oj_fix (fun (r : Int32 → Option (Int32)) => ∀ (v4_10 : Int32), ojJ X (vM_ l D E ad) Q (r v4_10) σ 10 [(0, .ref (ad 0)), (1, .int a1), (2, .int a2), (3, .int a3), (4, .int v4_10)] []) _ (fun _ => oj_none) (fun rec_10 hrec_10 v4_10 => ?_) 600 a4
  refine oj_iload hc dX9_canGo_10 4 rfl ?_
  refine oj_iconst hc 4 dX9_canGo_12 kc_4 ?_
  refine oj_icmp_gt hc 78 dX9_canGo_13 (by decide) (fun _ => ?_) ?_
  · refine oj_iconst hc 0 dX9_canGo_78 kc_0 ?_
    exact hret _ _ _ rfl dX9_canGo_79
  · refine oj_iload_n hc dX9_canGo_16 rfl 3 rfl ?_
    refine oj_if_le hc 78 dX9_canGo_17 (by decide) (fun _ => ?_) ?_
    · refine oj_iconst hc 0 dX9_canGo_78 kc_0 ?_
      exact hret _ _ _ rfl dX9_canGo_79
    · refine oj_iload_n hc dX9_canGo_20 rfl 1 rfl ?_
      refine oj_iload hc dX9_canGo_21 4 rfl ?_
      refine oj_cS1 hc cs_X9_126 (by omega) [.int a1, .int v4_10] [] rfl rfl (Nat.le_of_ble_eq_true rfl) dX9_canGo_23 (c_X9_step a1 v4_10 σ) (fun r1 => ?_)
      refine oj_istore hc [(0, .ref (ad 0)), (1, .int a1), (2, .int a2), (3, .int a3), (4, .int v4_10), (5, .int r1)] rfl (by decide) dX9_canGo_26 ?_
      refine oj_iload hc dX9_canGo_28 5 rfl ?_
      refine oj_iconst hc (-1) dX9_canGo_30 kc_m1 ?_
      refine oj_icmp_eq hc 72 dX9_canGo_31 (by decide) (fun _ => ?_) ?_
      · refine oj_iinc hc 1 (fun u => [(0, .ref (ad 0)), (1, .int a1), (2, .int a2), (3, .int a3), (4, .int u), (5, .int r1)]) 4 rfl kc_1 (fun _ => rfl) (by decide) dX9_canGo_72 (fun x2 => ?_)
        refine oj_goto hc 10 dX9_canGo_75 (by decide) ?_
        refine oj_sub [0, 1, 2, 3, 4] rfl ?_
        exact hrec_10 x2
      · refine oj_aload_n hc dX9_canGo_34 rfl 0 rfl ?_
        refine oj_iload hc dX9_canGo_35 5 rfl ?_
        refine oj_cV1 hc cv_X9_110 (by omega) mC_Model [.int r1] [] rfl rfl (Nat.le_of_ble_eq_true rfl) dX9_canGo_37 (c_X9_isSea r1 σ) (fun r3 => ?_)
        refine oj_if_ne hc 46 dX9_canGo_40 (by decide) ?_ (fun _ => ?_)
        · refine oj_iload hc dX9_canGo_46 5 rfl ?_
          refine oj_iload_n hc dX9_canGo_48 rfl 2 rfl ?_
          refine oj_icmp_eq hc 70 dX9_canGo_49 (by decide) (fun _ => ?_) ?_
          · refine oj_iconst hc 1 dX9_canGo_70 kc_1 ?_
            exact hret _ _ _ rfl dX9_canGo_71
          · refine oj_iload_n hc dX9_canGo_52 rfl 3 rfl ?_
            refine oj_iconst hc 1 dX9_canGo_53 kc_1 ?_
            refine oj_icmp_le hc 72 dX9_canGo_54 (by decide) (fun _ => ?_) ?_
            · refine oj_iinc hc 1 (fun u => [(0, .ref (ad 0)), (1, .int a1), (2, .int a2), (3, .int a3), (4, .int u), (5, .int r1)]) 4 rfl kc_1 (fun _ => rfl) (by decide) dX9_canGo_72 (fun x4 => ?_)
              refine oj_goto hc 10 dX9_canGo_75 (by decide) ?_
              refine oj_sub [0, 1, 2, 3, 4] rfl ?_
              exact hrec_10 x4
            · refine oj_aload_n hc dX9_canGo_57 rfl 0 rfl ?_
              refine oj_iload hc dX9_canGo_58 5 rfl ?_
              refine oj_iload_n hc dX9_canGo_60 rfl 2 rfl ?_
              refine oj_iload_n hc dX9_canGo_61 rfl 3 rfl ?_
              refine oj_iconst hc 1 dX9_canGo_62 kc_1 ?_
              refine oj_isub hc dX9_canGo_63 ?_
              refine oj_cV1 hc cv_X9_129 (by omega) mC_Model [.int r1, .int a2, .int (a3 - 1)] [] rfl rfl (Nat.le_of_ble_eq_true rfl) dX9_canGo_64 (c_X9_nearBy r1 a2 (a3 - 1) σ) (fun r5 => ?_)
              refine oj_if_eq hc 72 dX9_canGo_67 (by decide) (fun _ => ?_) ?_
              · refine oj_iinc hc 1 (fun u => [(0, .ref (ad 0)), (1, .int a1), (2, .int a2), (3, .int a3), (4, .int u), (5, .int r1)]) 4 rfl kc_1 (fun _ => rfl) (by decide) dX9_canGo_72 (fun x6 => ?_)
                refine oj_goto hc 10 dX9_canGo_75 (by decide) ?_
                refine oj_sub [0, 1, 2, 3, 4] rfl ?_
                exact hrec_10 x6
              · refine oj_iconst hc 1 dX9_canGo_70 kc_1 ?_
                exact hret _ _ _ rfl dX9_canGo_71
        · refine oj_goto hc 72 dX9_canGo_43 (by decide) ?_
          refine oj_iinc hc 1 (fun u => [(0, .ref (ad 0)), (1, .int a1), (2, .int a2), (3, .int a3), (4, .int u), (5, .int r1)]) 4 rfl kc_1 (fun _ => rfl) (by decide) dX9_canGo_72 (fun x7 => ?_)
          refine oj_goto hc 10 dX9_canGo_75 (by decide) ?_
          refine oj_sub [0, 1, 2, 3, 4] rfl ?_
          exact hrec_10 x7
def f_X9_canGo (a1 : Int32) (a2 : Int32) (a3 : Int32) (σ : ojS) : Option (Int32) :=
  if a1 = a2 then
    some 1
  else
    f_X9_canGo_10 a1 a2 a3 1 σ
set_option maxRecDepth 100000 in
set_option maxHeartbeats 4000000 in
theorem wk_X9_canGo {l : Launch} {D : va_G} {E : ojE} {ad : Nat → Nat} {X : ojX} {Q : Int32 → State → Prop} (hc : ojC X (vM_ l D E ad) RX9 cX9_canGo 6 5) (σ : ojS) (hret : ojRr X (vM_ l D E ad) Q cX9_canGo .boolean σ) (a1 : Int32) (a2 : Int32) (a3 : Int32) : ojJ X (vM_ l D E ad) Q (f_X9_canGo a1 a2 a3 σ) σ 0 [(0, .ref (ad 0)), (1, .int a1), (2, .int a2), (3, .int a3)] [] := by
  unfold f_X9_canGo
  refine oj_iload_n hc dX9_canGo_0 rfl 1 rfl ?_
  refine oj_iload_n hc dX9_canGo_1 rfl 2 rfl ?_
  refine oj_icmp_ne hc 7 dX9_canGo_2 (by decide) ?_ (fun _ => ?_)
  · refine oj_iconst hc 1 dX9_canGo_7 kc_1 ?_
    refine oj_istore hc [(0, .ref (ad 0)), (1, .int a1), (2, .int a2), (3, .int a3), (4, .int 1)] rfl (by decide) dX9_canGo_8 ?_
    exact wk_X9_canGo_10 hc _ hret a1 a2 a3 1
  · refine oj_iconst hc 1 dX9_canGo_5 kc_1 ?_
    exact hret _ _ _ rfl dX9_canGo_6
set_option maxRecDepth 100000 in
theorem c_X9_canGo {l : Launch} {D : va_G} {E : ojE} {ad : Nat → Nat} (a1 : Int32) (a2 : Int32) (a3 : Int32) (σ : ojS) : ∀ (r : Int32), f_X9_canGo a1 a2 a3 σ = some r → ojMi (vM_ l D E ad) yX9_canGo cX9_canGo 6 (some .boolean) 5 [.ref (ad 0), .int a1, .int a2, .int a3] σ r σ :=
  ojMi_R (by decide +kernel) rfl .boolean rfl (Nat.le_of_ble_eq_true rfl) rfl (fun X Q hc hret => wk_X9_canGo hc σ hret a1 a2 a3)

def f_X9_sail (a1 : Int32) (a2 : Int32) (σ : ojS) : Option (Int32 × ojS) :=
  ojB1 (f_X9_isSkimmer a1 σ) (fun (r1 : Int32) =>
    if r1 = 0 then
      some (0, σ)
    else
      ojChk a1 4 (
        if (σ 16 a1.toNatClampNeg) = 0 then
          ojB1 (f_X9_isSea a2 σ) (fun (r2 : Int32) =>
            if r2 = 0 then
              some (0, σ)
            else
              ojChk a1 4 (
                ojChk a1 4 (
                  ojB1 (f_X9_canGo (σ 9 a1.toNatClampNeg) a2 (σ 12 a1.toNatClampNeg) σ) (fun (r3 : Int32) =>
                    if r3 = 0 then
                      some (0, σ)
                    else
                      ojChk a1 4 (ojLet (ojU σ 9 a1.toNatClampNeg a2) (fun (σ4 : ojS) =>
                        ojChk a1 4 (ojLet (ojU σ4 16 a1.toNatClampNeg (vp_nar .boolean 1)) (fun (σ5 : ojS) =>
                          some (1, σ5)))))))))
        else
          some (0, σ)))
set_option maxRecDepth 100000 in
set_option maxHeartbeats 4000000 in
theorem wk_X9_sail {l : Launch} {D : va_G} {E : ojE} {ad : Nat → Nat} {X : ojX} {Q : Int32 × ojS → State → Prop} (hc : ojC X (vM_ l D E ad) RX9 cX9_sail 3 6) (hret : ojRi X (vM_ l D E ad) Q cX9_sail .boolean) (a1 : Int32) (a2 : Int32) (σ : ojS) : ojJ X (vM_ l D E ad) Q (f_X9_sail a1 a2 σ) σ 0 [(0, .ref (ad 0)), (1, .int a1), (2, .int a2)] [] := by
  unfold f_X9_sail
  refine oj_aload_n hc dX9_sail_0 rfl 0 rfl ?_
  refine oj_iload_n hc dX9_sail_1 rfl 1 rfl ?_
  refine oj_cV1 hc cv_X9_132 (by omega) mC_Model [.int a1] [] rfl rfl (Nat.le_of_ble_eq_true rfl) dX9_sail_2 (c_X9_isSkimmer a1 σ) (fun r1 => ?_)
  refine oj_if_eq hc 45 dX9_sail_5 (by decide) (fun _ => ?_) ?_
  · refine oj_iconst hc 0 dX9_sail_45 kc_0 ?_
    exact hret _ _ _ _ rfl dX9_sail_46
  · refine oj_aload_n hc dX9_sail_8 rfl 0 rfl ?_
    refine oj_getf hc ff_X9_60 mC_Model rfl dX9_sail_9 ?_
    refine oj_iload_n hc dX9_sail_12 rfl 1 rfl ?_
    refine oj_zald hc 1 mC_m_wentNow rfl dX9_sail_13 ?_
    refine oj_if_ne hc 45 dX9_sail_14 (by decide) ?_ (fun _ => ?_)
    · refine oj_iconst hc 0 dX9_sail_45 kc_0 ?_
      exact hret _ _ _ _ rfl dX9_sail_46
    · refine oj_aload_n hc dX9_sail_17 rfl 0 rfl ?_
      refine oj_iload_n hc dX9_sail_18 rfl 2 rfl ?_
      refine oj_cV1 hc cv_X9_110 (by omega) mC_Model [.int a2] [] rfl rfl (Nat.le_of_ble_eq_true rfl) dX9_sail_19 (c_X9_isSea a2 σ) (fun r2 => ?_)
      refine oj_if_eq hc 45 dX9_sail_22 (by decide) (fun _ => ?_) ?_
      · refine oj_iconst hc 0 dX9_sail_45 kc_0 ?_
        exact hret _ _ _ _ rfl dX9_sail_46
      · refine oj_aload_n hc dX9_sail_25 rfl 0 rfl ?_
        refine oj_aload_n hc dX9_sail_26 rfl 0 rfl ?_
        refine oj_getf hc ff_X9_39 mC_Model rfl dX9_sail_27 ?_
        refine oj_iload_n hc dX9_sail_30 rfl 1 rfl ?_
        refine oj_iald hc 0 mC_m_at rfl dX9_sail_31 ?_
        refine oj_iload_n hc dX9_sail_32 rfl 2 rfl ?_
        refine oj_aload_n hc dX9_sail_33 rfl 0 rfl ?_
        refine oj_getf hc ff_X9_48 mC_Model rfl dX9_sail_34 ?_
        refine oj_iload_n hc dX9_sail_37 rfl 1 rfl ?_
        refine oj_iald hc 0 mC_m_speed rfl dX9_sail_38 ?_
        refine oj_cV1 hc cv_X9_135 (by omega) mC_Model [.int (σ 9 a1.toNatClampNeg), .int a2, .int (σ 12 a1.toNatClampNeg)] [] rfl rfl (Nat.le_of_ble_eq_true rfl) dX9_sail_39 (c_X9_canGo (σ 9 a1.toNatClampNeg) a2 (σ 12 a1.toNatClampNeg) σ) (fun r3 => ?_)
        refine oj_if_ne hc 47 dX9_sail_42 (by decide) ?_ (fun _ => ?_)
        · refine oj_aload_n hc dX9_sail_47 rfl 0 rfl ?_
          refine oj_getf hc ff_X9_39 mC_Model rfl dX9_sail_48 ?_
          refine oj_iload_n hc dX9_sail_51 rfl 1 rfl ?_
          refine oj_iload_n hc dX9_sail_52 rfl 2 rfl ?_
          refine oj_iast hc 0 mC_m_at mC_m_at_s rfl rfl dX9_sail_53 (fun σ4 => ?_)
          refine oj_aload_n hc dX9_sail_54 rfl 0 rfl ?_
          refine oj_getf hc ff_X9_60 mC_Model rfl dX9_sail_55 ?_
          refine oj_iload_n hc dX9_sail_58 rfl 1 rfl ?_
          refine oj_iconst hc 1 dX9_sail_59 kc_1 ?_
          refine oj_zast hc 1 mC_m_wentNow mC_m_wentNow_s rfl rfl dX9_sail_60 (fun σ5 => ?_)
          refine oj_iconst hc 1 dX9_sail_61 kc_1 ?_
          exact hret _ _ _ _ rfl dX9_sail_62
        · refine oj_iconst hc 0 dX9_sail_45 kc_0 ?_
          exact hret _ _ _ _ rfl dX9_sail_46
set_option maxRecDepth 100000 in
theorem c_X9_sail {l : Launch} {D : va_G} {E : ojE} {ad : Nat → Nat} (a1 : Int32) (a2 : Int32) (σ : ojS) : ∀ (r : Int32) (σ1 : ojS), f_X9_sail a1 a2 σ = some (r, σ1) → ojMi (vM_ l D E ad) yX9_sail cX9_sail 3 (some .boolean) 6 [.ref (ad 0), .int a1, .int a2] σ r σ1 :=
  ojMi_W (by decide +kernel) rfl .boolean rfl (Nat.le_of_ble_eq_true rfl) rfl (fun X Q hc hret => wk_X9_sail hc hret a1 a2 σ)

def f_X9_empty (a1 : Int32) (σ : ojS) : Option (Int32 × ojS) :=
  ojB1 (f_X9_isSkimmer a1 σ) (fun (r1 : Int32) =>
    if r1 = 0 then
      some ((-1), σ)
    else
      ojChk a1 4 (
        ojLet (σ 13 a1.toNatClampNeg) (fun (x2 : Int32) =>
          ojChk a1 4 (ojLet (ojU σ 13 a1.toNatClampNeg 0) (fun (σ3 : ojS) =>
            some (x2, σ3))))))
set_option maxRecDepth 100000 in
set_option maxHeartbeats 4000000 in
theorem wk_X9_empty {l : Launch} {D : va_G} {E : ojE} {ad : Nat → Nat} {X : ojX} {Q : Int32 × ojS → State → Prop} (hc : ojC X (vM_ l D E ad) RX9 cX9_empty 3 3) (hret : ojRi X (vM_ l D E ad) Q cX9_empty .int) (a1 : Int32) (σ : ojS) : ojJ X (vM_ l D E ad) Q (f_X9_empty a1 σ) σ 0 [(0, .ref (ad 0)), (1, .int a1)] [] := by
  unfold f_X9_empty
  refine oj_aload_n hc dX9_empty_0 rfl 0 rfl ?_
  refine oj_iload_n hc dX9_empty_1 rfl 1 rfl ?_
  refine oj_cV1 hc cv_X9_132 (by omega) mC_Model [.int a1] [] rfl rfl (Nat.le_of_ble_eq_true rfl) dX9_empty_2 (c_X9_isSkimmer a1 σ) (fun r1 => ?_)
  refine oj_if_ne hc 10 dX9_empty_5 (by decide) ?_ (fun _ => ?_)
  · refine oj_aload_n hc dX9_empty_10 rfl 0 rfl ?_
    refine oj_getf hc ff_X9_51 mC_Model rfl dX9_empty_11 ?_
    refine oj_iload_n hc dX9_empty_14 rfl 1 rfl ?_
    refine oj_iald hc 0 mC_m_has rfl dX9_empty_15 ?_
    refine oj_nm (fun x2 => ?_)
    refine oj_istore_n hc [(0, .ref (ad 0)), (1, .int a1), (2, .int x2)] rfl (by decide) dX9_empty_16 rfl ?_
    refine oj_aload_n hc dX9_empty_17 rfl 0 rfl ?_
    refine oj_getf hc ff_X9_51 mC_Model rfl dX9_empty_18 ?_
    refine oj_iload_n hc dX9_empty_21 rfl 1 rfl ?_
    refine oj_iconst hc 0 dX9_empty_22 kc_0 ?_
    refine oj_iast hc 0 mC_m_has mC_m_has_s rfl rfl dX9_empty_23 (fun σ3 => ?_)
    refine oj_iload_n hc dX9_empty_24 rfl 2 rfl ?_
    exact hret _ _ _ _ rfl dX9_empty_25
  · refine oj_iconst hc (-1) dX9_empty_8 kc_m1 ?_
    exact hret _ _ _ _ rfl dX9_empty_9
set_option maxRecDepth 100000 in
theorem c_X9_empty {l : Launch} {D : va_G} {E : ojE} {ad : Nat → Nat} (a1 : Int32) (σ : ojS) : ∀ (r : Int32) (σ1 : ojS), f_X9_empty a1 σ = some (r, σ1) → ojMi (vM_ l D E ad) yX9_empty cX9_empty 3 (some .int) 3 [.ref (ad 0), .int a1] σ r σ1 :=
  ojMi_W (by decide +kernel) rfl .int rfl (Nat.le_of_ble_eq_true rfl) rfl (fun X Q hc hret => wk_X9_empty hc hret a1 σ)

def f_X9_hour_450 (rec_355 : Int32 → ojS → Option (ojS)) (a6 : Int32) (s0 : Int32) (σ : ojS) : Option (ojS) :=
  ojChk a6 4 (
    ojChk (σ 9 a6.toNatClampNeg) 96 (
      ojChk (σ 9 a6.toNatClampNeg) 96 (ojLet (ojU σ 2 (σ 9 a6.toNatClampNeg).toNatClampNeg ((σ 2 (σ 9 a6.toNatClampNeg).toNatClampNeg) - s0)) (fun (σ3 : ojS) =>
        ojChk a6 4 (
          ojChk a6 4 (ojLet (ojU σ3 13 a6.toNatClampNeg ((σ3 13 a6.toNatClampNeg) + s0)) (fun (σ4 : ojS) =>
            ojChk a6 4 (
              ojChk a6 4 (ojLet (ojU σ4 14 a6.toNatClampNeg ((σ4 14 a6.toNatClampNeg) + s0)) (fun (σ5 : ojS) =>
                ojLet (ojU σ5 0 13 ((σ5 0 13) + s0)) (fun (σ6 : ojS) =>
                  ojLet (a6 + 1) (fun (x7 : Int32) =>
                    rec_355 x7 σ6))))))))))))
set_option maxRecDepth 100000 in
set_option maxHeartbeats 4000000 in
theorem wk_X9_hour_450 {l : Launch} {D : va_G} {E : ojE} {ad : Nat → Nat} {X : ojX} {Q : ojS → State → Prop} (hc : ojC X (vM_ l D E ad) RX9 cX9_hour 8 3) (hret : ojRv X (vM_ l D E ad) Q cX9_hour) (rec_355 : Int32 → ojS → Option (ojS)) (a6 : Int32) (s0 : Int32) (σ : ojS) (hrec_355 : ∀ (v6_355 : Int32) (σ_355 : ojS), ojJ X (vM_ l D E ad) Q (rec_355 v6_355 σ_355) σ_355 355 [(0, .ref (ad 0)), (6, .int v6_355)] []) : ojJ X (vM_ l D E ad) Q (f_X9_hour_450 rec_355 a6 s0 σ) σ 450 [(0, .ref (ad 0)), (6, .int a6)] [.int s0] := by
  unfold f_X9_hour_450
  refine oj_istore hc [(0, .ref (ad 0)), (6, .int a6), (7, .int s0)] rfl (by decide) dX9_hour_450 ?_
  refine oj_aload_n hc dX9_hour_452 rfl 0 rfl ?_
  refine oj_getf hc ff_X9_13 mC_Model rfl dX9_hour_453 ?_
  refine oj_aload_n hc dX9_hour_456 rfl 0 rfl ?_
  refine oj_getf hc ff_X9_39 mC_Model rfl dX9_hour_457 ?_
  refine oj_iload hc dX9_hour_460 1 rfl ?_
  refine oj_iald hc 0 mC_m_at rfl dX9_hour_462 ?_
  refine oj_dup2 hc dX9_hour_463 rfl rfl ?_
  refine oj_iald hc 0 mC_m_oil rfl dX9_hour_464 ?_
  refine oj_iload hc dX9_hour_465 2 rfl ?_
  refine oj_isub hc dX9_hour_467 ?_
  refine oj_iast hc 0 mC_m_oil mC_m_oil_s rfl rfl dX9_hour_468 (fun σ3 => ?_)
  refine oj_aload_n hc dX9_hour_469 rfl 0 rfl ?_
  refine oj_getf hc ff_X9_51 mC_Model rfl dX9_hour_470 ?_
  refine oj_iload hc dX9_hour_473 1 rfl ?_
  refine oj_dup2 hc dX9_hour_475 rfl rfl ?_
  refine oj_iald hc 0 mC_m_has rfl dX9_hour_476 ?_
  refine oj_iload hc dX9_hour_477 2 rfl ?_
  refine oj_iadd hc dX9_hour_479 ?_
  refine oj_iast hc 0 mC_m_has mC_m_has_s rfl rfl dX9_hour_480 (fun σ4 => ?_)
  refine oj_aload_n hc dX9_hour_481 rfl 0 rfl ?_
  refine oj_getf hc ff_X9_54 mC_Model rfl dX9_hour_482 ?_
  refine oj_iload hc dX9_hour_485 1 rfl ?_
  refine oj_dup2 hc dX9_hour_487 rfl rfl ?_
  refine oj_iald hc 0 mC_m_took rfl dX9_hour_488 ?_
  refine oj_iload hc dX9_hour_489 2 rfl ?_
  refine oj_iadd hc dX9_hour_491 ?_
  refine oj_iast hc 0 mC_m_took mC_m_took_s rfl rfl dX9_hour_492 (fun σ5 => ?_)
  refine oj_aload_n hc dX9_hour_493 rfl 0 rfl ?_
  refine oj_dup hc dX9_hour_494 rfl ?_
  refine oj_getf hc ff_X9_146 mC_Model rfl dX9_hour_495 ?_
  refine oj_iload hc dX9_hour_498 2 rfl ?_
  refine oj_iadd hc dX9_hour_500 ?_
  refine oj_putf hc fp_X9_146 mC_Model mC_Model_s13 rfl rfl (Nat.le_of_ble_eq_true rfl) dX9_hour_501 (fun σ6 => ?_)
  refine oj_iinc hc 1 (fun u => [(0, .ref (ad 0)), (6, .int u), (7, .int s0)]) 1 rfl kc_1 (fun _ => rfl) (by decide) dX9_hour_504 (fun x7 => ?_)
  refine oj_goto hc 355 dX9_hour_507 (by decide) ?_
  refine oj_sub [0, 1] rfl ?_
  exact hrec_355 x7 σ6
def f_X9_hour_408 (rec_355 : Int32 → ojS → Option (ojS)) (a6 : Int32) (s0 : Int32) (σ : ojS) : Option (ojS) :=
  ojChk a6 4 (
    ojChk a6 4 (
      if ((σ 11 a6.toNatClampNeg) - (σ 13 a6.toNatClampNeg)) ≤ s0 then
        ojChk a6 4 (
          ojChk a6 4 (
            f_X9_hour_450 rec_355 a6 ((σ 11 a6.toNatClampNeg) - (σ 13 a6.toNatClampNeg)) σ))
      else
        f_X9_hour_450 rec_355 a6 s0 σ))
set_option maxRecDepth 100000 in
set_option maxHeartbeats 4000000 in
theorem wk_X9_hour_408 {l : Launch} {D : va_G} {E : ojE} {ad : Nat → Nat} {X : ojX} {Q : ojS → State → Prop} (hc : ojC X (vM_ l D E ad) RX9 cX9_hour 8 3) (hret : ojRv X (vM_ l D E ad) Q cX9_hour) (rec_355 : Int32 → ojS → Option (ojS)) (a6 : Int32) (s0 : Int32) (σ : ojS) (hrec_355 : ∀ (v6_355 : Int32) (σ_355 : ojS), ojJ X (vM_ l D E ad) Q (rec_355 v6_355 σ_355) σ_355 355 [(0, .ref (ad 0)), (6, .int v6_355)] []) : ojJ X (vM_ l D E ad) Q (f_X9_hour_408 rec_355 a6 s0 σ) σ 408 [(0, .ref (ad 0)), (6, .int a6)] [.int s0] := by
  unfold f_X9_hour_408
  refine oj_istore hc [(0, .ref (ad 0)), (6, .int a6), (7, .int s0)] rfl (by decide) dX9_hour_408 ?_
  refine oj_iload hc dX9_hour_410 2 rfl ?_
  refine oj_aload_n hc dX9_hour_412 rfl 0 rfl ?_
  refine oj_getf hc ff_X9_45 mC_Model rfl dX9_hour_413 ?_
  refine oj_iload hc dX9_hour_416 1 rfl ?_
  refine oj_iald hc 0 mC_m_room rfl dX9_hour_418 ?_
  refine oj_aload_n hc dX9_hour_419 rfl 0 rfl ?_
  refine oj_getf hc ff_X9_51 mC_Model rfl dX9_hour_420 ?_
  refine oj_iload hc dX9_hour_423 1 rfl ?_
  refine oj_iald hc 0 mC_m_has rfl dX9_hour_425 ?_
  refine oj_isub hc dX9_hour_426 ?_
  refine oj_icmp_ge hc 435 dX9_hour_427 (by decide) (fun _ => ?_) ?_
  · refine oj_aload_n hc dX9_hour_435 rfl 0 rfl ?_
    refine oj_getf hc ff_X9_45 mC_Model rfl dX9_hour_436 ?_
    refine oj_iload hc dX9_hour_439 1 rfl ?_
    refine oj_iald hc 0 mC_m_room rfl dX9_hour_441 ?_
    refine oj_aload_n hc dX9_hour_442 rfl 0 rfl ?_
    refine oj_getf hc ff_X9_51 mC_Model rfl dX9_hour_443 ?_
    refine oj_iload hc dX9_hour_446 1 rfl ?_
    refine oj_iald hc 0 mC_m_has rfl dX9_hour_448 ?_
    refine oj_isub hc dX9_hour_449 ?_
    refine oj_sub [0, 1] rfl ?_
    exact wk_X9_hour_450 hc hret rec_355 a6 ((σ 11 a6.toNatClampNeg) - (σ 13 a6.toNatClampNeg)) σ hrec_355
  · refine oj_iload hc dX9_hour_430 2 rfl ?_
    refine oj_goto hc 450 dX9_hour_432 (by decide) ?_
    refine oj_sub [0, 1] rfl ?_
    exact wk_X9_hour_450 hc hret rec_355 a6 s0 σ hrec_355
def f_X9_hour_355 (a6 : Int32) (σ : ojS) : Option (ojS) :=
  ojFix (fun _ _ => none) 600 (fun (rec_355 : Int32 → ojS → Option (ojS)) (v6_355 : Int32) (σ_355 : ojS) =>
    if (σ_355 0 14) ≤ v6_355 then
      ojLet (ojU σ_355 0 0 ((σ_355 0 0) + 1)) (fun (σ2 : ojS) =>
        some σ2)
    else
      ojChk v6_355 4 (
        ojChk (σ_355 9 v6_355.toNatClampNeg) 96 (
          ojChk v6_355 4 (
            if (σ_355 10 v6_355.toNatClampNeg) ≤ (σ_355 2 (σ_355 9 v6_355.toNatClampNeg).toNatClampNeg) then
              ojChk v6_355 4 (
                f_X9_hour_408 rec_355 v6_355 (σ_355 10 v6_355.toNatClampNeg) σ_355)
            else
              ojChk v6_355 4 (
                ojChk (σ_355 9 v6_355.toNatClampNeg) 96 (
                  f_X9_hour_408 rec_355 v6_355 (σ_355 2 (σ_355 9 v6_355.toNatClampNeg).toNatClampNeg) σ_355)))))) a6 σ
set_option maxRecDepth 100000 in
set_option maxHeartbeats 4000000 in
theorem wk_X9_hour_355 {l : Launch} {D : va_G} {E : ojE} {ad : Nat → Nat} {X : ojX} {Q : ojS → State → Prop} (hc : ojC X (vM_ l D E ad) RX9 cX9_hour 8 3) (hret : ojRv X (vM_ l D E ad) Q cX9_hour) (a6 : Int32) (σ : ojS) : ojJ X (vM_ l D E ad) Q (f_X9_hour_355 a6 σ) σ 355 [(0, .ref (ad 0)), (6, .int a6)] [] := by
  unfold f_X9_hour_355
  refine oj_fix (fun (r : Int32 → ojS → Option (ojS)) => ∀ (v6_355 : Int32) (σ_355 : ojS), ojJ X (vM_ l D E ad) Q (r v6_355 σ_355) σ_355 355 [(0, .ref (ad 0)), (6, .int v6_355)] []) _ (fun _ _ => oj_none) (fun rec_355 hrec_355 v6_355 σ_355 => ?_) 600 a6 σ
  refine oj_iload hc dX9_hour_355 1 rfl ?_
  refine oj_aload_n hc dX9_hour_357 rfl 0 rfl ?_
  refine oj_getf hc ff_X9_101 mC_Model rfl dX9_hour_358 ?_
  refine oj_icmp_ge hc 510 dX9_hour_361 (by decide) (fun _ => ?_) ?_
  · refine oj_aload_n hc dX9_hour_510 rfl 0 rfl ?_
    refine oj_dup hc dX9_hour_511 rfl ?_
    refine oj_getf hc ff_X9_104 mC_Model rfl dX9_hour_512 ?_
    refine oj_iconst hc 1 dX9_hour_515 kc_1 ?_
    refine oj_iadd hc dX9_hour_516 ?_
    refine oj_putf hc fp_X9_104 mC_Model mC_Model_s0 rfl rfl (Nat.le_of_ble_eq_true rfl) dX9_hour_517 (fun σ2 => ?_)
    exact hret _ _ _ dX9_hour_520
  · refine oj_aload_n hc dX9_hour_364 rfl 0 rfl ?_
    refine oj_getf hc ff_X9_13 mC_Model rfl dX9_hour_365 ?_
    refine oj_aload_n hc dX9_hour_368 rfl 0 rfl ?_
    refine oj_getf hc ff_X9_39 mC_Model rfl dX9_hour_369 ?_
    refine oj_iload hc dX9_hour_372 1 rfl ?_
    refine oj_iald hc 0 mC_m_at rfl dX9_hour_374 ?_
    refine oj_iald hc 0 mC_m_oil rfl dX9_hour_375 ?_
    refine oj_aload_n hc dX9_hour_376 rfl 0 rfl ?_
    refine oj_getf hc ff_X9_42 mC_Model rfl dX9_hour_377 ?_
    refine oj_iload hc dX9_hour_380 1 rfl ?_
    refine oj_iald hc 0 mC_m_rate rfl dX9_hour_382 ?_
    refine oj_icmp_ge hc 401 dX9_hour_383 (by decide) (fun _ => ?_) ?_
    · refine oj_aload_n hc dX9_hour_401 rfl 0 rfl ?_
      refine oj_getf hc ff_X9_42 mC_Model rfl dX9_hour_402 ?_
      refine oj_iload hc dX9_hour_405 1 rfl ?_
      refine oj_iald hc 0 mC_m_rate rfl dX9_hour_407 ?_
      exact wk_X9_hour_408 hc hret rec_355 v6_355 (σ_355 10 v6_355.toNatClampNeg) σ_355 hrec_355
    · refine oj_aload_n hc dX9_hour_386 rfl 0 rfl ?_
      refine oj_getf hc ff_X9_13 mC_Model rfl dX9_hour_387 ?_
      refine oj_aload_n hc dX9_hour_390 rfl 0 rfl ?_
      refine oj_getf hc ff_X9_39 mC_Model rfl dX9_hour_391 ?_
      refine oj_iload hc dX9_hour_394 1 rfl ?_
      refine oj_iald hc 0 mC_m_at rfl dX9_hour_396 ?_
      refine oj_iald hc 0 mC_m_oil rfl dX9_hour_397 ?_
      refine oj_goto hc 408 dX9_hour_398 (by decide) ?_
      exact wk_X9_hour_408 hc hret rec_355 v6_355 (σ_355 2 (σ_355 9 v6_355.toNatClampNeg).toNatClampNeg) σ_355 hrec_355
def f_X9_hour_352 (σ : ojS) : Option (ojS) :=
  f_X9_hour_355 0 σ
set_option maxRecDepth 100000 in
set_option maxHeartbeats 4000000 in
theorem wk_X9_hour_352 {l : Launch} {D : va_G} {E : ojE} {ad : Nat → Nat} {X : ojX} {Q : ojS → State → Prop} (hc : ojC X (vM_ l D E ad) RX9 cX9_hour 8 3) (hret : ojRv X (vM_ l D E ad) Q cX9_hour)  (σ : ojS) : ojJ X (vM_ l D E ad) Q (f_X9_hour_352 σ) σ 352 [(0, .ref (ad 0))] [] := by
  unfold f_X9_hour_352
  refine oj_iconst hc 0 dX9_hour_352 kc_0 ?_
  refine oj_istore hc [(0, .ref (ad 0)), (6, .int 0)] rfl (by decide) dX9_hour_353 ?_
  exact wk_X9_hour_355 hc hret 0 σ
def f_X9_hour_267 (a5 : Int32) (a6 : Int32) (σ : ojS) : Option (ojS) :=
  ojFix (fun _ _ => none) 600 (fun (rec_267 : Int32 → ojS → Option (ojS)) (v6_267 : Int32) (σ_267 : ojS) =>
    if 96 ≤ v6_267 then
      f_X9_hour_352 σ_267
    else
      ojChk v6_267 96 (
        ojChk v6_267 96 (
          ojChk v6_267 96 (ojLet (ojU σ_267 2 v6_267.toNatClampNeg ((σ_267 2 v6_267.toNatClampNeg) + (σ_267 21 v6_267.toNatClampNeg))) (fun (σ8 : ojS) =>
            ojChk v6_267 96 (
              if (σ8 1 v6_267.toNatClampNeg) ≤ 0 then
                ojChk v6_267 96 (
                  ojLet (((((σ8 2 v6_267.toNatClampNeg).toInt64) * (a5.toInt64)) / 1000).toInt32) (fun (x9 : Int32) =>
                    ojChk v6_267 96 (
                      ojChk v6_267 96 (ojLet (ojU σ8 2 v6_267.toNatClampNeg ((σ8 2 v6_267.toNatClampNeg) - x9)) (fun (σ10 : ojS) =>
                        ojLet (ojU σ10 0 11 ((σ10 0 11) + x9)) (fun (σ11 : ojS) =>
                          ojLet (v6_267 + 1) (fun (x12 : Int32) =>
                            rec_267 x12 σ11)))))))
              else
                ojLet (v6_267 + 1) (fun (x13 : Int32) =>
                  rec_267 x13 σ8))))))) a6 σ
set_option maxRecDepth 100000 in
set_option maxHeartbeats 4000000 in
theorem wk_X9_hour_267 {l : Launch} {D : va_G} {E : ojE} {ad : Nat → Nat} {X : ojX} {Q : ojS → State → Prop} (hc : ojC X (vM_ l D E ad) RX9 cX9_hour 8 3) (hret : ojRv X (vM_ l D E ad) Q cX9_hour) (a5 : Int32) (a6 : Int32) (σ : ojS) : ojJ X (vM_ l D E ad) Q (f_X9_hour_267 a5 a6 σ) σ 267 [(0, .ref (ad 0)), (5, .int a5), (6, .int a6)] [] := by
  unfold f_X9_hour_267
  refine oj_fix (fun (r : Int32 → ojS → Option (ojS)) => ∀ (v6_267 : Int32) (σ_267 : ojS), ojJ X (vM_ l D E ad) Q (r v6_267 σ_267) σ_267 267 [(0, .ref (ad 0)), (5, .int a5), (6, .int v6_267)] []) _ (fun _ _ => oj_none) (fun rec_267 hrec_267 v6_267 σ_267 => ?_) 600 a6 σ
  refine oj_iload hc dX9_hour_267 2 rfl ?_
  refine oj_bipush hc 96 dX9_hour_269 kb_96 ?_
  refine oj_icmp_ge hc 352 dX9_hour_271 (by decide) (fun _ => ?_) ?_
  · refine oj_sub [0] rfl ?_
    exact wk_X9_hour_352 hc hret σ_267
  · refine oj_aload_n hc dX9_hour_274 rfl 0 rfl ?_
    refine oj_getf hc ff_X9_13 mC_Model rfl dX9_hour_275 ?_
    refine oj_iload hc dX9_hour_278 2 rfl ?_
    refine oj_dup2 hc dX9_hour_280 rfl rfl ?_
    refine oj_iald hc 0 mC_m_oil rfl dX9_hour_281 ?_
    refine oj_aload_n hc dX9_hour_282 rfl 0 rfl ?_
    refine oj_getf hc ff_X9_75 mC_Model rfl dX9_hour_283 ?_
    refine oj_iload hc dX9_hour_286 2 rfl ?_
    refine oj_iald hc 0 mC_m_comes rfl dX9_hour_288 ?_
    refine oj_iadd hc dX9_hour_289 ?_
    refine oj_iast hc 0 mC_m_oil mC_m_oil_s rfl rfl dX9_hour_290 (fun σ8 => ?_)
    refine oj_aload_n hc dX9_hour_291 rfl 0 rfl ?_
    refine oj_getf hc ff_X9_9 mC_Model rfl dX9_hour_292 ?_
    refine oj_iload hc dX9_hour_295 2 rfl ?_
    refine oj_iald hc 0 mC_m_rank rfl dX9_hour_297 ?_
    refine oj_if_le hc 304 dX9_hour_298 (by decide) (fun _ => ?_) ?_
    · refine oj_aload_n hc dX9_hour_304 rfl 0 rfl ?_
      refine oj_getf hc ff_X9_13 mC_Model rfl dX9_hour_305 ?_
      refine oj_iload hc dX9_hour_308 2 rfl ?_
      refine oj_iald hc 0 mC_m_oil rfl dX9_hour_310 ?_
      refine oj_i2l hc dX9_hour_311 ?_
      refine oj_iload hc dX9_hour_312 1 rfl ?_
      refine oj_i2l hc dX9_hour_314 ?_
      refine oj_lmul hc dX9_hour_315 ?_
      refine oj_ldc2 hc kd_X9_141 dX9_hour_316 ?_
      refine oj_ldiv hc dX9_hour_319 (by decide) ?_
      refine oj_l2i hc dX9_hour_320 ?_
      refine oj_nm (fun x9 => ?_)
      refine oj_istore hc [(0, .ref (ad 0)), (5, .int a5), (6, .int v6_267), (7, .int x9)] rfl (by decide) dX9_hour_321 ?_
      refine oj_aload_n hc dX9_hour_323 rfl 0 rfl ?_
      refine oj_getf hc ff_X9_13 mC_Model rfl dX9_hour_324 ?_
      refine oj_iload hc dX9_hour_327 2 rfl ?_
      refine oj_dup2 hc dX9_hour_329 rfl rfl ?_
      refine oj_iald hc 0 mC_m_oil rfl dX9_hour_330 ?_
      refine oj_iload hc dX9_hour_331 3 rfl ?_
      refine oj_isub hc dX9_hour_333 ?_
      refine oj_iast hc 0 mC_m_oil mC_m_oil_s rfl rfl dX9_hour_334 (fun σ10 => ?_)
      refine oj_aload_n hc dX9_hour_335 rfl 0 rfl ?_
      refine oj_dup hc dX9_hour_336 rfl ?_
      refine oj_getf hc ff_X9_143 mC_Model rfl dX9_hour_337 ?_
      refine oj_iload hc dX9_hour_340 3 rfl ?_
      refine oj_iadd hc dX9_hour_342 ?_
      refine oj_putf hc fp_X9_143 mC_Model mC_Model_s11 rfl rfl (Nat.le_of_ble_eq_true rfl) dX9_hour_343 (fun σ11 => ?_)
      refine oj_iinc hc 1 (fun u => [(0, .ref (ad 0)), (5, .int a5), (6, .int u), (7, .int x9)]) 2 rfl kc_1 (fun _ => rfl) (by decide) dX9_hour_346 (fun x12 => ?_)
      refine oj_goto hc 267 dX9_hour_349 (by decide) ?_
      refine oj_sub [0, 1, 2] rfl ?_
      exact hrec_267 x12 σ11
    · refine oj_goto hc 346 dX9_hour_301 (by decide) ?_
      refine oj_iinc hc 1 (fun u => [(0, .ref (ad 0)), (5, .int a5), (6, .int u)]) 2 rfl kc_1 (fun _ => rfl) (by decide) dX9_hour_346 (fun x13 => ?_)
      refine oj_goto hc 267 dX9_hour_349 (by decide) ?_
      exact hrec_267 x13 σ8
def f_X9_hour_262 (s0 : Int32) (σ : ojS) : Option (ojS) :=
  f_X9_hour_267 s0 0 σ
set_option maxRecDepth 100000 in
set_option maxHeartbeats 4000000 in
theorem wk_X9_hour_262 {l : Launch} {D : va_G} {E : ojE} {ad : Nat → Nat} {X : ojX} {Q : ojS → State → Prop} (hc : ojC X (vM_ l D E ad) RX9 cX9_hour 8 3) (hret : ojRv X (vM_ l D E ad) Q cX9_hour) (s0 : Int32) (σ : ojS) : ojJ X (vM_ l D E ad) Q (f_X9_hour_262 s0 σ) σ 262 [(0, .ref (ad 0))] [.int s0] := by
  unfold f_X9_hour_262
  refine oj_istore hc [(0, .ref (ad 0)), (5, .int s0)] rfl (by decide) dX9_hour_262 ?_
  refine oj_iconst hc 0 dX9_hour_264 kc_0 ?_
  refine oj_istore hc [(0, .ref (ad 0)), (5, .int s0), (6, .int 0)] rfl (by decide) dX9_hour_265 ?_
  exact wk_X9_hour_267 hc hret s0 0 σ
def f_X9_hour_226 (σ : ojS) : Option (ojS) :=
  ojLet ((σ 0 0) - (σ 0 10)) (fun (x1 : Int32) =>
    if 12 ≤ x1 then
      if 48 ≤ x1 then
        f_X9_hour_262 2 σ
      else
        f_X9_hour_262 10 σ
    else
      f_X9_hour_262 30 σ)
set_option maxRecDepth 100000 in
set_option maxHeartbeats 4000000 in
theorem wk_X9_hour_226 {l : Launch} {D : va_G} {E : ojE} {ad : Nat → Nat} {X : ojX} {Q : ojS → State → Prop} (hc : ojC X (vM_ l D E ad) RX9 cX9_hour 8 3) (hret : ojRv X (vM_ l D E ad) Q cX9_hour)  (σ : ojS) : ojJ X (vM_ l D E ad) Q (f_X9_hour_226 σ) σ 226 [(0, .ref (ad 0))] [] := by
  unfold f_X9_hour_226
  refine oj_aload_n hc dX9_hour_226 rfl 0 rfl ?_
  refine oj_getf hc ff_X9_104 mC_Model rfl dX9_hour_227 ?_
  refine oj_aload_n hc dX9_hour_230 rfl 0 rfl ?_
  refine oj_getf hc ff_X9_35 mC_Model rfl dX9_hour_231 ?_
  refine oj_isub hc dX9_hour_234 ?_
  refine oj_nm (fun x1 => ?_)
  refine oj_istore hc [(0, .ref (ad 0)), (4, .int x1)] rfl (by decide) dX9_hour_235 ?_
  refine oj_iload hc dX9_hour_237 1 rfl ?_
  refine oj_bipush hc 12 dX9_hour_239 kb_12 ?_
  refine oj_icmp_ge hc 249 dX9_hour_241 (by decide) (fun _ => ?_) ?_
  · refine oj_iload hc dX9_hour_249 1 rfl ?_
    refine oj_bipush hc 48 dX9_hour_251 kb_48 ?_
    refine oj_icmp_ge hc 261 dX9_hour_253 (by decide) (fun _ => ?_) ?_
    · refine oj_iconst hc 2 dX9_hour_261 kc_2 ?_
      refine oj_sub [0] rfl ?_
      exact wk_X9_hour_262 hc hret 2 σ
    · refine oj_bipush hc 10 dX9_hour_256 kb_10 ?_
      refine oj_goto hc 262 dX9_hour_258 (by decide) ?_
      refine oj_sub [0] rfl ?_
      exact wk_X9_hour_262 hc hret 10 σ
  · refine oj_bipush hc 30 dX9_hour_244 kb_30 ?_
    refine oj_goto hc 262 dX9_hour_246 (by decide) ?_
    refine oj_sub [0] rfl ?_
    exact wk_X9_hour_262 hc hret 30 σ
def f_X9_hour_196 (rec_87 : Int32 → ojS → Option (ojS)) (a2 : Int32) (a3 : Int32) (a4 : Int32) (a5 : Int32) (a6 : Int32) (σ : ojS) : Option (ojS) :=
  ojChk a4 96 (
    ojChk a4 96 (ojLet (ojU σ 21 a4.toNatClampNeg ((σ 21 a4.toNatClampNeg) - a5)) (fun (σ17 : ojS) =>
      ojChk a6 96 (
        ojChk a6 96 (ojLet (ojU σ17 21 a6.toNatClampNeg ((σ17 21 a6.toNatClampNeg) + a5)) (fun (σ18 : ojS) =>
          ojLet (a4 + 1) (fun (x19 : Int32) =>
            rec_87 x19 σ18)))))))
set_option maxRecDepth 100000 in
set_option maxHeartbeats 4000000 in
theorem wk_X9_hour_196 {l : Launch} {D : va_G} {E : ojE} {ad : Nat → Nat} {X : ojX} {Q : ojS → State → Prop} (hc : ojC X (vM_ l D E ad) RX9 cX9_hour 8 3) (hret : ojRv X (vM_ l D E ad) Q cX9_hour) (rec_87 : Int32 → ojS → Option (ojS)) (a2 : Int32) (a3 : Int32) (a4 : Int32) (a5 : Int32) (a6 : Int32) (σ : ojS) (hrec_87 : ∀ (v4_87 : Int32) (σ_87 : ojS), ojJ X (vM_ l D E ad) Q (rec_87 v4_87 σ_87) σ_87 87 [(0, .ref (ad 0)), (2, .int a2), (3, .int a3), (4, .int v4_87)] []) : ojJ X (vM_ l D E ad) Q (f_X9_hour_196 rec_87 a2 a3 a4 a5 a6 σ) σ 196 [(0, .ref (ad 0)), (2, .int a2), (3, .int a3), (4, .int a4), (5, .int a5), (6, .int a6)] [] := by
  unfold f_X9_hour_196
  refine oj_aload_n hc dX9_hour_196 rfl 0 rfl ?_
  refine oj_getf hc ff_X9_75 mC_Model rfl dX9_hour_197 ?_
  refine oj_iload hc dX9_hour_200 3 rfl ?_
  refine oj_dup2 hc dX9_hour_202 rfl rfl ?_
  refine oj_iald hc 0 mC_m_comes rfl dX9_hour_203 ?_
  refine oj_iload hc dX9_hour_204 4 rfl ?_
  refine oj_isub hc dX9_hour_206 ?_
  refine oj_iast hc 0 mC_m_comes mC_m_comes_s rfl rfl dX9_hour_207 (fun σ17 => ?_)
  refine oj_aload_n hc dX9_hour_208 rfl 0 rfl ?_
  refine oj_getf hc ff_X9_75 mC_Model rfl dX9_hour_209 ?_
  refine oj_iload hc dX9_hour_212 5 rfl ?_
  refine oj_dup2 hc dX9_hour_214 rfl rfl ?_
  refine oj_iald hc 0 mC_m_comes rfl dX9_hour_215 ?_
  refine oj_iload hc dX9_hour_216 4 rfl ?_
  refine oj_iadd hc dX9_hour_218 ?_
  refine oj_iast hc 0 mC_m_comes mC_m_comes_s rfl rfl dX9_hour_219 (fun σ18 => ?_)
  refine oj_iinc hc 1 (fun u => [(0, .ref (ad 0)), (2, .int a2), (3, .int a3), (4, .int u), (5, .int a5), (6, .int a6)]) 3 rfl kc_1 (fun _ => rfl) (by decide) dX9_hour_220 (fun x19 => ?_)
  refine oj_goto hc 87 dX9_hour_223 (by decide) ?_
  refine oj_sub [0, 1, 2, 3] rfl ?_
  exact hrec_87 x19 σ18
def f_X9_hour_87 (a2 : Int32) (a3 : Int32) (a4 : Int32) (σ : ojS) : Option (ojS) :=
  ojFix (fun _ _ => none) 600 (fun (rec_87 : Int32 → ojS → Option (ojS)) (v4_87 : Int32) (σ_87 : ojS) =>
    if 96 ≤ v4_87 then
      f_X9_hour_226 σ_87
    else
      if a2 ≤ 0 then
        f_X9_hour_226 σ_87
      else
        ojChk v4_87 96 (
          if (σ_87 1 v4_87.toNatClampNeg) ≤ 0 then
            ojChk v4_87 96 (
              ojLet ((σ_87 2 v4_87.toNatClampNeg) / 2) (fun (x14 : Int32) =>
                ojB1 (f_X9_step v4_87 a2) (fun (r15 : Int32) =>
                  if r15 = (-1) then
                    ojLet (ojU σ_87 0 12 ((σ_87 0 12) + x14)) (fun (σ21 : ojS) =>
                      ojChk v4_87 96 (
                        ojChk v4_87 96 (ojLet (ojU σ21 21 v4_87.toNatClampNeg ((σ21 21 v4_87.toNatClampNeg) - x14)) (fun (σ22 : ojS) =>
                          ojLet (v4_87 + 1) (fun (x23 : Int32) =>
                            rec_87 x23 σ22)))))
                  else
                    ojB1 (f_X9_boomAt v4_87 r15 σ_87) (fun (r16 : Int32) =>
                      if r16 = (-1) then
                        f_X9_hour_196 rec_87 a2 a3 v4_87 x14 r15 σ_87
                      else
                        ojChk r16 20 (
                          if (σ_87 8 r16.toNatClampNeg) < a3 then
                            f_X9_hour_196 rec_87 a2 a3 v4_87 x14 r15 σ_87
                          else
                            ojLet (x14 / 10) (fun (x20 : Int32) =>
                              f_X9_hour_196 rec_87 a2 a3 v4_87 x20 r15 σ_87))))))
          else
            ojLet (v4_87 + 1) (fun (x24 : Int32) =>
              rec_87 x24 σ_87))) a4 σ
set_option maxRecDepth 100000 in
set_option maxHeartbeats 4000000 in
theorem wk_X9_hour_87 {l : Launch} {D : va_G} {E : ojE} {ad : Nat → Nat} {X : ojX} {Q : ojS → State → Prop} (hc : ojC X (vM_ l D E ad) RX9 cX9_hour 8 3) (hret : ojRv X (vM_ l D E ad) Q cX9_hour) (a2 : Int32) (a3 : Int32) (a4 : Int32) (σ : ojS) : ojJ X (vM_ l D E ad) Q (f_X9_hour_87 a2 a3 a4 σ) σ 87 [(0, .ref (ad 0)), (2, .int a2), (3, .int a3), (4, .int a4)] [] := by
  unfold f_X9_hour_87
  refine oj_fix (fun (r : Int32 → ojS → Option (ojS)) => ∀ (v4_87 : Int32) (σ_87 : ojS), ojJ X (vM_ l D E ad) Q (r v4_87 σ_87) σ_87 87 [(0, .ref (ad 0)), (2, .int a2), (3, .int a3), (4, .int v4_87)] []) _ (fun _ _ => oj_none) (fun rec_87 hrec_87 v4_87 σ_87 => ?_) 600 a4 σ
  refine oj_iload hc dX9_hour_87 3 rfl ?_
  refine oj_bipush hc 96 dX9_hour_89 kb_96 ?_
  refine oj_icmp_ge hc 226 dX9_hour_91 (by decide) (fun _ => ?_) ?_
  · refine oj_sub [0] rfl ?_
    exact wk_X9_hour_226 hc hret σ_87
  · refine oj_iload_n hc dX9_hour_94 rfl 1 rfl ?_
    refine oj_if_le hc 226 dX9_hour_95 (by decide) (fun _ => ?_) ?_
    · refine oj_sub [0] rfl ?_
      exact wk_X9_hour_226 hc hret σ_87
    · refine oj_aload_n hc dX9_hour_98 rfl 0 rfl ?_
      refine oj_getf hc ff_X9_9 mC_Model rfl dX9_hour_99 ?_
      refine oj_iload hc dX9_hour_102 3 rfl ?_
      refine oj_iald hc 0 mC_m_rank rfl dX9_hour_104 ?_
      refine oj_if_le hc 111 dX9_hour_105 (by decide) (fun _ => ?_) ?_
      · refine oj_aload_n hc dX9_hour_111 rfl 0 rfl ?_
        refine oj_getf hc ff_X9_13 mC_Model rfl dX9_hour_112 ?_
        refine oj_iload hc dX9_hour_115 3 rfl ?_
        refine oj_iald hc 0 mC_m_oil rfl dX9_hour_117 ?_
        refine oj_iconst hc 2 dX9_hour_118 kc_2 ?_
        refine oj_idiv hc dX9_hour_119 (by decide) ?_
        refine oj_nm (fun x14 => ?_)
        refine oj_istore hc [(0, .ref (ad 0)), (2, .int a2), (3, .int a3), (4, .int v4_87), (5, .int x14)] rfl (by decide) dX9_hour_120 ?_
        refine oj_iload hc dX9_hour_122 3 rfl ?_
        refine oj_iload_n hc dX9_hour_124 rfl 1 rfl ?_
        refine oj_cS1 hc cs_X9_126 (by omega) [.int v4_87, .int a2] [] rfl rfl (Nat.le_of_ble_eq_true rfl) dX9_hour_125 (c_X9_step v4_87 a2 σ_87) (fun r15 => ?_)
        refine oj_istore hc [(0, .ref (ad 0)), (2, .int a2), (3, .int a3), (4, .int v4_87), (5, .int x14), (6, .int r15)] rfl (by decide) dX9_hour_128 ?_
        refine oj_iload hc dX9_hour_130 5 rfl ?_
        refine oj_iconst hc (-1) dX9_hour_132 kc_m1 ?_
        refine oj_icmp_ne hc 162 dX9_hour_133 (by decide) ?_ (fun _ => ?_)
        · refine oj_aload_n hc dX9_hour_162 rfl 0 rfl ?_
          refine oj_iload hc dX9_hour_163 3 rfl ?_
          refine oj_iload hc dX9_hour_165 5 rfl ?_
          refine oj_cV1 hc cv_X9_117 (by omega) mC_Model [.int v4_87, .int r15] [] rfl rfl (Nat.le_of_ble_eq_true rfl) dX9_hour_167 (c_X9_boomAt v4_87 r15 σ_87) (fun r16 => ?_)
          refine oj_istore hc [(0, .ref (ad 0)), (2, .int a2), (3, .int a3), (4, .int v4_87), (5, .int x14), (6, .int r15), (7, .int r16)] rfl (by decide) dX9_hour_170 ?_
          refine oj_iload hc dX9_hour_172 6 rfl ?_
          refine oj_iconst hc (-1) dX9_hour_174 kc_m1 ?_
          refine oj_icmp_eq hc 196 dX9_hour_175 (by decide) (fun _ => ?_) ?_
          · refine oj_sub [0, 1, 2, 3, 4, 5] rfl ?_
            exact wk_X9_hour_196 hc hret rec_87 a2 a3 v4_87 x14 r15 σ_87 hrec_87
          · refine oj_iload_n hc dX9_hour_178 rfl 2 rfl ?_
            refine oj_aload_n hc dX9_hour_179 rfl 0 rfl ?_
            refine oj_getf hc ff_X9_32 mC_Model rfl dX9_hour_180 ?_
            refine oj_iload hc dX9_hour_183 6 rfl ?_
            refine oj_iald hc 0 mC_m_boomLimit rfl dX9_hour_185 ?_
            refine oj_icmp_gt hc 196 dX9_hour_186 (by decide) (fun _ => ?_) ?_
            · refine oj_sub [0, 1, 2, 3, 4, 5] rfl ?_
              exact wk_X9_hour_196 hc hret rec_87 a2 a3 v4_87 x14 r15 σ_87 hrec_87
            · refine oj_iload hc dX9_hour_189 4 rfl ?_
              refine oj_bipush hc 10 dX9_hour_191 kb_10 ?_
              refine oj_idiv hc dX9_hour_193 (by decide) ?_
              refine oj_nm (fun x20 => ?_)
              refine oj_istore hc [(0, .ref (ad 0)), (2, .int a2), (3, .int a3), (4, .int v4_87), (5, .int x20), (6, .int r15), (7, .int r16)] rfl (by decide) dX9_hour_194 ?_
              refine oj_sub [0, 1, 2, 3, 4, 5] rfl ?_
              exact wk_X9_hour_196 hc hret rec_87 a2 a3 v4_87 x20 r15 σ_87 hrec_87
        · refine oj_aload_n hc dX9_hour_136 rfl 0 rfl ?_
          refine oj_dup hc dX9_hour_137 rfl ?_
          refine oj_getf hc ff_X9_138 mC_Model rfl dX9_hour_138 ?_
          refine oj_iload hc dX9_hour_141 4 rfl ?_
          refine oj_iadd hc dX9_hour_143 ?_
          refine oj_putf hc fp_X9_138 mC_Model mC_Model_s12 rfl rfl (Nat.le_of_ble_eq_true rfl) dX9_hour_144 (fun σ21 => ?_)
          refine oj_aload_n hc dX9_hour_147 rfl 0 rfl ?_
          refine oj_getf hc ff_X9_75 mC_Model rfl dX9_hour_148 ?_
          refine oj_iload hc dX9_hour_151 3 rfl ?_
          refine oj_dup2 hc dX9_hour_153 rfl rfl ?_
          refine oj_iald hc 0 mC_m_comes rfl dX9_hour_154 ?_
          refine oj_iload hc dX9_hour_155 4 rfl ?_
          refine oj_isub hc dX9_hour_157 ?_
          refine oj_iast hc 0 mC_m_comes mC_m_comes_s rfl rfl dX9_hour_158 (fun σ22 => ?_)
          refine oj_goto hc 220 dX9_hour_159 (by decide) ?_
          refine oj_iinc hc 1 (fun u => [(0, .ref (ad 0)), (2, .int a2), (3, .int a3), (4, .int u), (5, .int x14), (6, .int r15)]) 3 rfl kc_1 (fun _ => rfl) (by decide) dX9_hour_220 (fun x23 => ?_)
          refine oj_goto hc 87 dX9_hour_223 (by decide) ?_
          refine oj_sub [0, 1, 2, 3] rfl ?_
          exact hrec_87 x23 σ22
      · refine oj_goto hc 220 dX9_hour_108 (by decide) ?_
        refine oj_iinc hc 1 (fun u => [(0, .ref (ad 0)), (2, .int a2), (3, .int a3), (4, .int u)]) 3 rfl kc_1 (fun _ => rfl) (by decide) dX9_hour_220 (fun x24 => ?_)
        refine oj_goto hc 87 dX9_hour_223 (by decide) ?_
        exact hrec_87 x24 σ_87
def f_X9_hour_84 (a2 : Int32) (a3 : Int32) (σ : ojS) : Option (ojS) :=
  f_X9_hour_87 a2 a3 0 σ
set_option maxRecDepth 100000 in
set_option maxHeartbeats 4000000 in
theorem wk_X9_hour_84 {l : Launch} {D : va_G} {E : ojE} {ad : Nat → Nat} {X : ojX} {Q : ojS → State → Prop} (hc : ojC X (vM_ l D E ad) RX9 cX9_hour 8 3) (hret : ojRv X (vM_ l D E ad) Q cX9_hour) (a2 : Int32) (a3 : Int32) (σ : ojS) : ojJ X (vM_ l D E ad) Q (f_X9_hour_84 a2 a3 σ) σ 84 [(0, .ref (ad 0)), (2, .int a2), (3, .int a3)] [] := by
  unfold f_X9_hour_84
  refine oj_iconst hc 0 dX9_hour_84 kc_0 ?_
  refine oj_istore hc [(0, .ref (ad 0)), (2, .int a2), (3, .int a3), (4, .int 0)] rfl (by decide) dX9_hour_85 ?_
  exact wk_X9_hour_87 hc hret a2 a3 0 σ
def f_X9_hour_63 (a2 : Int32) (a3 : Int32) (a4 : Int32) (σ : ojS) : Option (ojS) :=
  ojFix (fun _ _ => none) 600 (fun (rec_63 : Int32 → ojS → Option (ojS)) (v4_63 : Int32) (σ_63 : ojS) =>
    if 96 ≤ v4_63 then
      f_X9_hour_84 a2 a3 σ_63
    else
      ojChk v4_63 96 (ojLet (ojU σ_63 21 v4_63.toNatClampNeg 0) (fun (σ25 : ojS) =>
        ojLet (v4_63 + 1) (fun (x26 : Int32) =>
          rec_63 x26 σ25)))) a4 σ
set_option maxRecDepth 100000 in
set_option maxHeartbeats 4000000 in
theorem wk_X9_hour_63 {l : Launch} {D : va_G} {E : ojE} {ad : Nat → Nat} {X : ojX} {Q : ojS → State → Prop} (hc : ojC X (vM_ l D E ad) RX9 cX9_hour 8 3) (hret : ojRv X (vM_ l D E ad) Q cX9_hour) (a2 : Int32) (a3 : Int32) (a4 : Int32) (σ : ojS) : ojJ X (vM_ l D E ad) Q (f_X9_hour_63 a2 a3 a4 σ) σ 63 [(0, .ref (ad 0)), (2, .int a2), (3, .int a3), (4, .int a4)] [] := by
  unfold f_X9_hour_63
  refine oj_fix (fun (r : Int32 → ojS → Option (ojS)) => ∀ (v4_63 : Int32) (σ_63 : ojS), ojJ X (vM_ l D E ad) Q (r v4_63 σ_63) σ_63 63 [(0, .ref (ad 0)), (2, .int a2), (3, .int a3), (4, .int v4_63)] []) _ (fun _ _ => oj_none) (fun rec_63 hrec_63 v4_63 σ_63 => ?_) 600 a4 σ
  refine oj_iload hc dX9_hour_63 3 rfl ?_
  refine oj_bipush hc 96 dX9_hour_65 kb_96 ?_
  refine oj_icmp_ge hc 84 dX9_hour_67 (by decide) (fun _ => ?_) ?_
  · refine oj_sub [0, 1, 2] rfl ?_
    exact wk_X9_hour_84 hc hret a2 a3 σ_63
  · refine oj_aload_n hc dX9_hour_70 rfl 0 rfl ?_
    refine oj_getf hc ff_X9_75 mC_Model rfl dX9_hour_71 ?_
    refine oj_iload hc dX9_hour_74 3 rfl ?_
    refine oj_iconst hc 0 dX9_hour_76 kc_0 ?_
    refine oj_iast hc 0 mC_m_comes mC_m_comes_s rfl rfl dX9_hour_77 (fun σ25 => ?_)
    refine oj_iinc hc 1 (fun u => [(0, .ref (ad 0)), (2, .int a2), (3, .int a3), (4, .int u)]) 3 rfl kc_1 (fun _ => rfl) (by decide) dX9_hour_78 (fun x26 => ?_)
    refine oj_goto hc 63 dX9_hour_81 (by decide) ?_
    exact hrec_63 x26 σ25
def f_X9_hour_59 (a2 : Int32) (s0 : Int32) (σ : ojS) : Option (ojS) :=
  f_X9_hour_63 a2 s0 0 σ
set_option maxRecDepth 100000 in
set_option maxHeartbeats 4000000 in
theorem wk_X9_hour_59 {l : Launch} {D : va_G} {E : ojE} {ad : Nat → Nat} {X : ojX} {Q : ojS → State → Prop} (hc : ojC X (vM_ l D E ad) RX9 cX9_hour 8 3) (hret : ojRv X (vM_ l D E ad) Q cX9_hour) (a2 : Int32) (s0 : Int32) (σ : ojS) : ojJ X (vM_ l D E ad) Q (f_X9_hour_59 a2 s0 σ) σ 59 [(0, .ref (ad 0)), (2, .int a2)] [.int s0] := by
  unfold f_X9_hour_59
  refine oj_istore_n hc [(0, .ref (ad 0)), (2, .int a2), (3, .int s0)] rfl (by decide) dX9_hour_59 rfl ?_
  refine oj_iconst hc 0 dX9_hour_60 kc_0 ?_
  refine oj_istore hc [(0, .ref (ad 0)), (2, .int a2), (3, .int s0), (4, .int 0)] rfl (by decide) dX9_hour_61 ?_
  exact wk_X9_hour_63 hc hret a2 s0 0 σ
def f_X9_hour_29 (a1 : Int32) (s0 : Int32) (σ : ojS) : Option (ojS) :=
  if (σ 0 0) ≤ 500 then
    ojChk ((501 * a1) + (σ 0 0)) 1503 (
      f_X9_hour_59 s0 (σ 4 ((501 * a1) + (σ 0 0)).toNatClampNeg) σ)
  else
    f_X9_hour_59 s0 0 σ
set_option maxRecDepth 100000 in
set_option maxHeartbeats 4000000 in
theorem wk_X9_hour_29 {l : Launch} {D : va_G} {E : ojE} {ad : Nat → Nat} {X : ojX} {Q : ojS → State → Prop} (hc : ojC X (vM_ l D E ad) RX9 cX9_hour 8 3) (hret : ojRv X (vM_ l D E ad) Q cX9_hour) (a1 : Int32) (s0 : Int32) (σ : ojS) : ojJ X (vM_ l D E ad) Q (f_X9_hour_29 a1 s0 σ) σ 29 [(0, .ref (ad 0)), (1, .int a1)] [.int s0] := by
  unfold f_X9_hour_29
  refine oj_istore_n hc [(0, .ref (ad 0)), (1, .int a1), (2, .int s0)] rfl (by decide) dX9_hour_29 rfl ?_
  refine oj_aload_n hc dX9_hour_30 rfl 0 rfl ?_
  refine oj_getf hc ff_X9_104 mC_Model rfl dX9_hour_31 ?_
  refine oj_sipush hc 500 dX9_hour_34 ks_500 ?_
  refine oj_icmp_le hc 44 dX9_hour_37 (by decide) (fun _ => ?_) ?_
  · refine oj_aload_n hc dX9_hour_44 rfl 0 rfl ?_
    refine oj_getf hc ff_X9_19 mC_Model rfl dX9_hour_45 ?_
    refine oj_sipush hc 501 dX9_hour_48 ks_501 ?_
    refine oj_iload_n hc dX9_hour_51 rfl 1 rfl ?_
    refine oj_imul hc dX9_hour_52 ?_
    refine oj_aload_n hc dX9_hour_53 rfl 0 rfl ?_
    refine oj_getf hc ff_X9_104 mC_Model rfl dX9_hour_54 ?_
    refine oj_iadd hc dX9_hour_57 ?_
    refine oj_iald hc 0 mC_m_force rfl dX9_hour_58 ?_
    refine oj_sub [0, 2] rfl ?_
    exact wk_X9_hour_59 hc hret s0 (σ 4 ((501 * a1) + (σ 0 0)).toNatClampNeg) σ
  · refine oj_iconst hc 0 dX9_hour_40 kc_0 ?_
    refine oj_goto hc 59 dX9_hour_41 (by decide) ?_
    refine oj_sub [0, 2] rfl ?_
    exact wk_X9_hour_59 hc hret s0 0 σ
def f_X9_hour (a1 : Int32) (σ : ojS) : Option (ojS) :=
  if (σ 0 0) ≤ 500 then
    ojChk ((501 * a1) + (σ 0 0)) 1503 (
      f_X9_hour_29 a1 (σ 3 ((501 * a1) + (σ 0 0)).toNatClampNeg) σ)
  else
    f_X9_hour_29 a1 0 σ
set_option maxRecDepth 100000 in
set_option maxHeartbeats 4000000 in
theorem wk_X9_hour {l : Launch} {D : va_G} {E : ojE} {ad : Nat → Nat} {X : ojX} {Q : ojS → State → Prop} (hc : ojC X (vM_ l D E ad) RX9 cX9_hour 8 3) (hret : ojRv X (vM_ l D E ad) Q cX9_hour) (a1 : Int32) (σ : ojS) : ojJ X (vM_ l D E ad) Q (f_X9_hour a1 σ) σ 0 [(0, .ref (ad 0)), (1, .int a1)] [] := by
  unfold f_X9_hour
  refine oj_aload_n hc dX9_hour_0 rfl 0 rfl ?_
  refine oj_getf hc ff_X9_104 mC_Model rfl dX9_hour_1 ?_
  refine oj_sipush hc 500 dX9_hour_4 ks_500 ?_
  refine oj_icmp_le hc 14 dX9_hour_7 (by decide) (fun _ => ?_) ?_
  · refine oj_aload_n hc dX9_hour_14 rfl 0 rfl ?_
    refine oj_getf hc ff_X9_16 mC_Model rfl dX9_hour_15 ?_
    refine oj_sipush hc 501 dX9_hour_18 ks_501 ?_
    refine oj_iload_n hc dX9_hour_21 rfl 1 rfl ?_
    refine oj_imul hc dX9_hour_22 ?_
    refine oj_aload_n hc dX9_hour_23 rfl 0 rfl ?_
    refine oj_getf hc ff_X9_104 mC_Model rfl dX9_hour_24 ?_
    refine oj_iadd hc dX9_hour_27 ?_
    refine oj_iald hc 0 mC_m_way rfl dX9_hour_28 ?_
    exact wk_X9_hour_29 hc hret a1 (σ 3 ((501 * a1) + (σ 0 0)).toNatClampNeg) σ
  · refine oj_iconst hc 0 dX9_hour_10 kc_0 ?_
    refine oj_goto hc 29 dX9_hour_11 (by decide) ?_
    exact wk_X9_hour_29 hc hret a1 0 σ
set_option maxRecDepth 100000 in
theorem c_X9_hour {l : Launch} {D : va_G} {E : ojE} {ad : Nat → Nat} (a1 : Int32) (σ : ojS) : ∀ (σ1 : ojS), f_X9_hour a1 σ = some σ1 → ojMv (vM_ l D E ad) yX9_hour cX9_hour 8 none 3 [.ref (ad 0), .int a1] σ σ1 :=
  ojMv_W (by decide +kernel) rfl rfl (Nat.le_of_ble_eq_true rfl) rfl (fun X Q hc hret => wk_X9_hour hc hret a1 σ)

def f_X9_go_36 (rec_14 : Int32 → ojS → Option (Int32 × ojS)) (a1 : Int32) (a2 : Int32) (a3 : Int32) (σ : ojS) : Option (Int32 × ojS) :=
  ojFix (fun _ _ => none) 600 (fun (rec_36 : Int32 → ojS → Option (Int32 × ojS)) (v3_36 : Int32) (σ_36 : ojS) =>
    if (σ_36 0 14) ≤ v3_36 then
      ojLet (a2 + 1) (fun (x4 : Int32) =>
        rec_14 x4 σ_36)
    else
      ojChk v3_36 4 (ojLet (ojU σ_36 16 v3_36.toNatClampNeg (vp_nar .boolean 0)) (fun (σ5 : ojS) =>
        ojLet (v3_36 + 1) (fun (x6 : Int32) =>
          rec_36 x6 σ5)))) a3 σ
set_option maxRecDepth 100000 in
set_option maxHeartbeats 4000000 in
theorem wk_X9_go_36 {l : Launch} {D : va_G} {E : ojE} {ad : Nat → Nat} {X : ojX} {Q : Int32 × ojS → State → Prop} (hc : ojC X (vM_ l D E ad) RX9 cX9_go 4 4) (hret : ojRi X (vM_ l D E ad) Q cX9_go .int) (rec_14 : Int32 → ojS → Option (Int32 × ojS)) (a1 : Int32) (a2 : Int32) (a3 : Int32) (σ : ojS) (hrec_14 : ∀ (v2_14 : Int32) (σ_14 : ojS), ojJ X (vM_ l D E ad) Q (rec_14 v2_14 σ_14) σ_14 14 [(0, .ref (ad 0)), (1, .int a1), (2, .int v2_14)] []) : ojJ X (vM_ l D E ad) Q (f_X9_go_36 rec_14 a1 a2 a3 σ) σ 36 [(0, .ref (ad 0)), (1, .int a1), (2, .int a2), (3, .int a3)] [] := by
  unfold f_X9_go_36
  refine oj_fix (fun (r : Int32 → ojS → Option (Int32 × ojS)) => ∀ (v3_36 : Int32) (σ_36 : ojS), ojJ X (vM_ l D E ad) Q (r v3_36 σ_36) σ_36 36 [(0, .ref (ad 0)), (1, .int a1), (2, .int a2), (3, .int v3_36)] []) _ (fun _ _ => oj_none) (fun rec_36 hrec_36 v3_36 σ_36 => ?_) 600 a3 σ
  refine oj_iload_n hc dX9_go_36 rfl 3 rfl ?_
  refine oj_aload_n hc dX9_go_37 rfl 0 rfl ?_
  refine oj_getf hc ff_X9_101 mC_Model rfl dX9_go_38 ?_
  refine oj_icmp_ge hc 57 dX9_go_41 (by decide) (fun _ => ?_) ?_
  · refine oj_iinc hc 1 (fun u => [(0, .ref (ad 0)), (1, .int a1), (2, .int u), (3, .int v3_36)]) 2 rfl kc_1 (fun _ => rfl) (by decide) dX9_go_57 (fun x4 => ?_)
    refine oj_goto hc 14 dX9_go_60 (by decide) ?_
    refine oj_sub [0, 1, 2] rfl ?_
    exact hrec_14 x4 σ_36
  · refine oj_aload_n hc dX9_go_44 rfl 0 rfl ?_
    refine oj_getf hc ff_X9_60 mC_Model rfl dX9_go_45 ?_
    refine oj_iload_n hc dX9_go_48 rfl 3 rfl ?_
    refine oj_iconst hc 0 dX9_go_49 kc_0 ?_
    refine oj_zast hc 1 mC_m_wentNow mC_m_wentNow_s rfl rfl dX9_go_50 (fun σ5 => ?_)
    refine oj_iinc hc 1 (fun u => [(0, .ref (ad 0)), (1, .int a1), (2, .int a2), (3, .int u)]) 3 rfl kc_1 (fun _ => rfl) (by decide) dX9_go_51 (fun x6 => ?_)
    refine oj_goto hc 36 dX9_go_54 (by decide) ?_
    exact hrec_36 x6 σ5
def f_X9_go_14 (a1 : Int32) (a2 : Int32) (σ : ojS) : Option (Int32 × ojS) :=
  ojFix (fun _ _ => none) 600 (fun (rec_14 : Int32 → ojS → Option (Int32 × ojS)) (v2_14 : Int32) (σ_14 : ojS) =>
    if a1 ≤ v2_14 then
      some (σ_14 0 0, σ_14)
    else
      if 500 ≤ (σ_14 0 0) then
        some (σ_14 0 0, σ_14)
      else
        ojBv (f_X9_hour 0 σ_14) (fun (σ3 : ojS) =>
          f_X9_go_36 rec_14 a1 v2_14 0 σ3)) a2 σ
set_option maxRecDepth 100000 in
set_option maxHeartbeats 4000000 in
theorem wk_X9_go_14 {l : Launch} {D : va_G} {E : ojE} {ad : Nat → Nat} {X : ojX} {Q : Int32 × ojS → State → Prop} (hc : ojC X (vM_ l D E ad) RX9 cX9_go 4 4) (hret : ojRi X (vM_ l D E ad) Q cX9_go .int) (a1 : Int32) (a2 : Int32) (σ : ojS) : ojJ X (vM_ l D E ad) Q (f_X9_go_14 a1 a2 σ) σ 14 [(0, .ref (ad 0)), (1, .int a1), (2, .int a2)] [] := by
  unfold f_X9_go_14
  refine oj_fix (fun (r : Int32 → ojS → Option (Int32 × ojS)) => ∀ (v2_14 : Int32) (σ_14 : ojS), ojJ X (vM_ l D E ad) Q (r v2_14 σ_14) σ_14 14 [(0, .ref (ad 0)), (1, .int a1), (2, .int v2_14)] []) _ (fun _ _ => oj_none) (fun rec_14 hrec_14 v2_14 σ_14 => ?_) 600 a2 σ
  refine oj_iload_n hc dX9_go_14 rfl 2 rfl ?_
  refine oj_iload_n hc dX9_go_15 rfl 1 rfl ?_
  refine oj_icmp_ge hc 63 dX9_go_16 (by decide) (fun _ => ?_) ?_
  · refine oj_aload_n hc dX9_go_63 rfl 0 rfl ?_
    refine oj_getf hc ff_X9_104 mC_Model rfl dX9_go_64 ?_
    exact hret _ _ _ _ rfl dX9_go_67
  · refine oj_aload_n hc dX9_go_19 rfl 0 rfl ?_
    refine oj_getf hc ff_X9_104 mC_Model rfl dX9_go_20 ?_
    refine oj_sipush hc 500 dX9_go_23 ks_500 ?_
    refine oj_icmp_ge hc 63 dX9_go_26 (by decide) (fun _ => ?_) ?_
    · refine oj_aload_n hc dX9_go_63 rfl 0 rfl ?_
      refine oj_getf hc ff_X9_104 mC_Model rfl dX9_go_64 ?_
      exact hret _ _ _ _ rfl dX9_go_67
    · refine oj_aload_n hc dX9_go_29 rfl 0 rfl ?_
      refine oj_iconst hc 0 dX9_go_30 kc_0 ?_
      refine oj_cVv hc cv_X9_149 (by omega) mC_Model [.int 0] [] rfl rfl (Nat.le_of_ble_eq_true rfl) dX9_go_31 (c_X9_hour 0 σ_14) (fun σ3 => ?_)
      refine oj_iconst hc 0 dX9_go_34 kc_0 ?_
      refine oj_istore_n hc [(0, .ref (ad 0)), (1, .int a1), (2, .int v2_14), (3, .int 0)] rfl (by decide) dX9_go_35 rfl ?_
      exact wk_X9_go_36 hc hret rec_14 a1 v2_14 0 σ3 hrec_14
def f_X9_go (a1 : Int32) (σ : ojS) : Option (Int32 × ojS) :=
  ojB1 (f_X9_in a1 0 48) (fun (r1 : Int32) =>
    if r1 = 0 then
      some ((-1), σ)
    else
      f_X9_go_14 a1 0 σ)
set_option maxRecDepth 100000 in
set_option maxHeartbeats 4000000 in
theorem wk_X9_go {l : Launch} {D : va_G} {E : ojE} {ad : Nat → Nat} {X : ojX} {Q : Int32 × ojS → State → Prop} (hc : ojC X (vM_ l D E ad) RX9 cX9_go 4 4) (hret : ojRi X (vM_ l D E ad) Q cX9_go .int) (a1 : Int32) (σ : ojS) : ojJ X (vM_ l D E ad) Q (f_X9_go a1 σ) σ 0 [(0, .ref (ad 0)), (1, .int a1)] [] := by
  unfold f_X9_go
  refine oj_iload_n hc dX9_go_0 rfl 1 rfl ?_
  refine oj_iconst hc 0 dX9_go_1 kc_0 ?_
  refine oj_bipush hc 48 dX9_go_2 kb_48 ?_
  refine oj_cS1 hc cs_X9_93 (by omega) [.int a1, .int 0, .int 48] [] rfl rfl (Nat.le_of_ble_eq_true rfl) dX9_go_4 (c_X9_in a1 0 48 σ) (fun r1 => ?_)
  refine oj_if_ne hc 12 dX9_go_7 (by decide) ?_ (fun _ => ?_)
  · refine oj_iconst hc 0 dX9_go_12 kc_0 ?_
    refine oj_istore_n hc [(0, .ref (ad 0)), (1, .int a1), (2, .int 0)] rfl (by decide) dX9_go_13 rfl ?_
    exact wk_X9_go_14 hc hret a1 0 σ
  · refine oj_iconst hc (-1) dX9_go_10 kc_m1 ?_
    exact hret _ _ _ _ rfl dX9_go_11
set_option maxRecDepth 100000 in
theorem c_X9_go {l : Launch} {D : va_G} {E : ojE} {ad : Nat → Nat} (a1 : Int32) (σ : ojS) : ∀ (r : Int32) (σ1 : ojS), f_X9_go a1 σ = some (r, σ1) → ojMi (vM_ l D E ad) yX9_go cX9_go 4 (some .int) 4 [.ref (ad 0), .int a1] σ r σ1 :=
  ojMi_W (by decide +kernel) rfl .int rfl (Nat.le_of_ble_eq_true rfl) rfl (fun X Q hc hret => wk_X9_go hc hret a1 σ)
