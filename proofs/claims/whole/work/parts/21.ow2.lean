def f_X8_driftAndLose (n1 : Nat) (a2 : Int32) (a3 : Int32) (σ : ojS) : Option (ojS) :=
  ojB1 (f_X6_wayAt a2 a3 σ) (fun (r1 : Int32) =>
    if r1 = 0 then
      ojBv (f_X8_loseByAge n1 (a3 - (σ 0 12)) σ) (fun (σ3 : ojS) =>
        some σ3)
    else
      ojB1 (f_X6_forceAt a2 a3 σ) (fun (r4 : Int32) =>
        ojBv (f_X8_driftAll n1 r1 r4 σ) (fun (σ6 : ojS) =>
          ojBv (f_X8_loseByAge n1 (a3 - (σ6 0 12)) σ6) (fun (σ8 : ojS) =>
            some σ8))))
set_option maxRecDepth 100000 in
set_option maxHeartbeats 4000000 in
theorem wk_X8_driftAndLose {l : Launch} {D : va_G} {E : ojE} {ad : Nat → Nat} {X : ojX} {Q : ojS → State → Prop} (hc : ojC X (vO_ l D E ad) RX8 cX8_driftAndLose 5 4) (hret : ojRv X (vO_ l D E ad) Q cX8_driftAndLose) (n1 : Nat) (h1 : n1 < 4) (a2 : Int32) (a3 : Int32) (σ : ojS) : ojJ X (vO_ l D E ad) Q (f_X8_driftAndLose n1 a2 a3 σ) σ 0 [(0, .ref (ad 0)), (1, .ref (ad (19 + n1))), (2, .int a2), (3, .int a3)] [] := by
  unfold f_X8_driftAndLose
  refine oj_aload_n hc dX8_driftAndLose_0 rfl 0 rfl ?_
  refine oj_getf hc ff_X8_26 oC_OilWatch rfl dX8_driftAndLose_1 ?_
  refine oj_iload_n hc dX8_driftAndLose_4 rfl 2 rfl ?_
  refine oj_iload_n hc dX8_driftAndLose_5 rfl 3 rfl ?_
  refine oj_cV1 hc cv_X8_250 (by omega) oC_Sky [.int a2, .int a3] [] rfl rfl (Nat.le_of_ble_eq_true rfl) dX8_driftAndLose_6 (c_X6_wayAt a2 a3 σ) (fun r1 => ?_)
  refine oj_istore hc [(0, .ref (ad 0)), (1, .ref (ad (19 + n1))), (2, .int a2), (3, .int a3), (4, .int r1)] rfl (by decide) dX8_driftAndLose_9 ?_
  refine oj_iload hc dX8_driftAndLose_11 4 rfl ?_
  refine oj_if_eq hc 32 dX8_driftAndLose_13 (by decide) (fun _ => ?_) ?_
  · refine oj_aload_n hc dX8_driftAndLose_32 rfl 0 rfl ?_
    refine oj_aload_n hc dX8_driftAndLose_33 rfl 1 rfl ?_
    refine oj_iload_n hc dX8_driftAndLose_34 rfl 3 rfl ?_
    refine oj_aload_n hc dX8_driftAndLose_35 rfl 0 rfl ?_
    refine oj_getf hc ff_X8_116 oC_OilWatch rfl dX8_driftAndLose_36 ?_
    refine oj_isub hc dX8_driftAndLose_39 ?_
    refine oj_cVv hc cv_X8_259 (by omega) oC_OilWatch [.ref (ad (19 + n1)), .int (a3 - (σ 0 12))] [] rfl rfl (Nat.le_of_ble_eq_true rfl) dX8_driftAndLose_40 (c_X8_loseByAge n1 h1 (a3 - (σ 0 12)) σ) (fun σ3 => ?_)
    exact hret _ _ _ dX8_driftAndLose_43
  · refine oj_aload_n hc dX8_driftAndLose_16 rfl 0 rfl ?_
    refine oj_aload_n hc dX8_driftAndLose_17 rfl 1 rfl ?_
    refine oj_iload hc dX8_driftAndLose_18 4 rfl ?_
    refine oj_aload_n hc dX8_driftAndLose_20 rfl 0 rfl ?_
    refine oj_getf hc ff_X8_26 oC_OilWatch rfl dX8_driftAndLose_21 ?_
    refine oj_iload_n hc dX8_driftAndLose_24 rfl 2 rfl ?_
    refine oj_iload_n hc dX8_driftAndLose_25 rfl 3 rfl ?_
    refine oj_cV1 hc cv_X8_253 (by omega) oC_Sky [.int a2, .int a3] [.int r1, .ref (ad (19 + n1)), .ref (ad 0)] rfl rfl (Nat.le_of_ble_eq_true rfl) dX8_driftAndLose_26 (c_X6_forceAt a2 a3 σ) (fun r4 => ?_)
    refine oj_cVv hc cv_X8_256 (by omega) oC_OilWatch [.ref (ad (19 + n1)), .int r1, .int r4] [] rfl rfl (Nat.le_of_ble_eq_true rfl) dX8_driftAndLose_29 (c_X8_driftAll n1 h1 r1 r4 σ) (fun σ6 => ?_)
    refine oj_aload_n hc dX8_driftAndLose_32 rfl 0 rfl ?_
    refine oj_aload_n hc dX8_driftAndLose_33 rfl 1 rfl ?_
    refine oj_iload_n hc dX8_driftAndLose_34 rfl 3 rfl ?_
    refine oj_aload_n hc dX8_driftAndLose_35 rfl 0 rfl ?_
    refine oj_getf hc ff_X8_116 oC_OilWatch rfl dX8_driftAndLose_36 ?_
    refine oj_isub hc dX8_driftAndLose_39 ?_
    refine oj_cVv hc cv_X8_259 (by omega) oC_OilWatch [.ref (ad (19 + n1)), .int (a3 - (σ6 0 12))] [] rfl rfl (Nat.le_of_ble_eq_true rfl) dX8_driftAndLose_40 (c_X8_loseByAge n1 h1 (a3 - (σ6 0 12)) σ6) (fun σ8 => ?_)
    exact hret _ _ _ dX8_driftAndLose_43
set_option maxRecDepth 100000 in
theorem c_X8_driftAndLose {l : Launch} {D : va_G} {E : ojE} {ad : Nat → Nat} (n1 : Nat) (h1 : n1 < 4) (a2 : Int32) (a3 : Int32) (σ : ojS) : ∀ (σ1 : ojS), f_X8_driftAndLose n1 a2 a3 σ = some σ1 → ojMv (vO_ l D E ad) yX8_driftAndLose cX8_driftAndLose 5 none 4 [.ref (ad 0), .ref (ad (19 + n1)), .int a2, .int a3] σ σ1 :=
  ojMv_W (by decide +kernel) rfl rfl (Nat.le_of_ble_eq_true rfl) rfl (fun X Q hc hret => wk_X8_driftAndLose hc hret n1 h1 a2 a3 σ)

def f_X8_passHour (n1 : Nat) (a2 : Int32) (a3 : Int32) (σ : ojS) : Option (ojS) :=
  ojBv (f_X8_driftAndLose n1 a2 a3 σ) (fun (σ2 : ojS) =>
    ojBv (f_X1_skim n1 0 (σ2 9 1) σ2) (fun (σ4 : ojS) =>
      some σ4))
set_option maxRecDepth 100000 in
set_option maxHeartbeats 4000000 in
theorem wk_X8_passHour {l : Launch} {D : va_G} {E : ojE} {ad : Nat → Nat} {X : ojX} {Q : ojS → State → Prop} (hc : ojC X (vO_ l D E ad) RX8 cX8_passHour 4 5) (hret : ojRv X (vO_ l D E ad) Q cX8_passHour) (n1 : Nat) (h1 : n1 < 4) (a2 : Int32) (a3 : Int32) (σ : ojS) : ojJ X (vO_ l D E ad) Q (f_X8_passHour n1 a2 a3 σ) σ 0 [(0, .ref (ad 0)), (1, .ref (ad (19 + n1))), (2, .int a2), (3, .int a3)] [] := by
  unfold f_X8_passHour
  refine oj_aload_n hc dX8_passHour_0 rfl 0 rfl ?_
  refine oj_aload_n hc dX8_passHour_1 rfl 1 rfl ?_
  refine oj_iload_n hc dX8_passHour_2 rfl 2 rfl ?_
  refine oj_iload_n hc dX8_passHour_3 rfl 3 rfl ?_
  refine oj_cVv hc cv_X8_244 (by omega) oC_OilWatch [.ref (ad (19 + n1)), .int a2, .int a3] [] rfl rfl (Nat.le_of_ble_eq_true rfl) dX8_passHour_4 (c_X8_driftAndLose n1 h1 a2 a3 σ) (fun σ2 => ?_)
  refine oj_aload_n hc dX8_passHour_7 rfl 0 rfl ?_
  refine oj_getf hc ff_X8_33 oC_OilWatch rfl dX8_passHour_8 ?_
  refine oj_aload_n hc dX8_passHour_11 rfl 1 rfl ?_
  refine oj_iconst hc 0 dX8_passHour_12 kc_0 ?_
  refine oj_aload_n hc dX8_passHour_13 rfl 0 rfl ?_
  refine oj_getf hc ff_X8_33 oC_OilWatch rfl dX8_passHour_14 ?_
  refine oj_getf hc ff_X8_171 oC_Fleet rfl dX8_passHour_17 ?_
  refine oj_cVv hc cv_X8_247 (by omega) oC_Fleet [.ref (ad (19 + n1)), .int 0, .int (σ2 9 1)] [] rfl rfl (Nat.le_of_ble_eq_true rfl) dX8_passHour_20 (c_X1_skim n1 h1 0 (σ2 9 1) σ2) (fun σ4 => ?_)
  exact hret _ _ _ dX8_passHour_23
set_option maxRecDepth 100000 in
theorem c_X8_passHour {l : Launch} {D : va_G} {E : ojE} {ad : Nat → Nat} (n1 : Nat) (h1 : n1 < 4) (a2 : Int32) (a3 : Int32) (σ : ojS) : ∀ (σ1 : ojS), f_X8_passHour n1 a2 a3 σ = some σ1 → ojMv (vO_ l D E ad) yX8_passHour cX8_passHour 4 none 5 [.ref (ad 0), .ref (ad (19 + n1)), .int a2, .int a3] σ σ1 :=
  ojMv_W (by decide +kernel) rfl rfl (Nat.le_of_ble_eq_true rfl) rfl (fun X Q hc hret => wk_X8_passHour hc hret n1 h1 a2 a3 σ)

def f_X8_spreadPossible_13 (n1 : Nat) (a3 : Int32) (a4 : Int32) (σ : ojS) : Option (ojS) :=
  ojFix (fun _ _ => none) 600 (fun (rec_13 : Int32 → ojS → Option (ojS)) (v4_13 : Int32) (σ_13 : ojS) =>
    if 96 ≤ v4_13 then
      some σ_13
    else
      if a3 = 0 then
        some σ_13
      else
        ojB1 (f_X8_cellAtTurn v4_13 a3) (fun (r2 : Int32) =>
          ojB1 (f_X2_ahead r2 a3) (fun (r3 : Int32) =>
            ojChk r2 96 (
              if (σ_13 (39 + n1) r2.toNatClampNeg) = 0 then
                ojLet (v4_13 + 1) (fun (x4 : Int32) =>
                  rec_13 x4 σ_13)
              else
                ojB1 (f_X2_isSea r3 σ_13) (fun (r5 : Int32) =>
                  if r5 = 0 then
                    ojLet (v4_13 + 1) (fun (x6 : Int32) =>
                      rec_13 x6 σ_13)
                  else
                    ojChk r3 96 (ojLet (ojU σ_13 (39 + n1) r3.toNatClampNeg (vp_nar .boolean 1)) (fun (σ7 : ojS) =>
                      ojLet (v4_13 + 1) (fun (x8 : Int32) =>
                        rec_13 x8 σ7)))))))) a4 σ
set_option maxRecDepth 100000 in
set_option maxHeartbeats 4000000 in
theorem wk_X8_spreadPossible_13 {l : Launch} {D : va_G} {E : ojE} {ad : Nat → Nat} {X : ojX} {Q : ojS → State → Prop} (hc : ojC X (vO_ l D E ad) RX8 cX8_spreadPossible 7 3) (hret : ojRv X (vO_ l D E ad) Q cX8_spreadPossible) (n1 : Nat) (h1 : n1 < 8) (a3 : Int32) (a4 : Int32) (σ : ojS) : ojJ X (vO_ l D E ad) Q (f_X8_spreadPossible_13 n1 a3 a4 σ) σ 13 [(0, .ref (ad 0)), (1, .ref (ad (31 + n1))), (3, .int a3), (4, .int a4)] [] := by
  unfold f_X8_spreadPossible_13
  refine oj_fix (fun (r : Int32 → ojS → Option (ojS)) => ∀ (v4_13 : Int32) (σ_13 : ojS), ojJ X (vO_ l D E ad) Q (r v4_13 σ_13) σ_13 13 [(0, .ref (ad 0)), (1, .ref (ad (31 + n1))), (3, .int a3), (4, .int v4_13)] []) _ (fun _ _ => oj_none) (fun rec_13 hrec_13 v4_13 σ_13 => ?_) 600 a4 σ
  refine oj_iload hc dX8_spreadPossible_13 3 rfl ?_
  refine oj_bipush hc 96 dX8_spreadPossible_15 kb_96 ?_
  refine oj_icmp_ge hc 76 dX8_spreadPossible_17 (by decide) (fun _ => ?_) ?_
  · exact hret _ _ _ dX8_spreadPossible_76
  · refine oj_iload_n hc dX8_spreadPossible_20 rfl 2 rfl ?_
    refine oj_if_eq hc 76 dX8_spreadPossible_21 (by decide) (fun _ => ?_) ?_
    · exact hret _ _ _ dX8_spreadPossible_76
    · refine oj_iload hc dX8_spreadPossible_24 3 rfl ?_
      refine oj_iload_n hc dX8_spreadPossible_26 rfl 2 rfl ?_
      refine oj_cS1 hc cs_X8_263 (by omega) [.int v4_13, .int a3] [] rfl rfl (Nat.le_of_ble_eq_true rfl) dX8_spreadPossible_27 (c_X8_cellAtTurn v4_13 a3 σ_13) (fun r2 => ?_)
      refine oj_istore hc [(0, .ref (ad 0)), (1, .ref (ad (31 + n1))), (3, .int a3), (4, .int v4_13), (5, .int r2)] rfl (by decide) dX8_spreadPossible_30 ?_
      refine oj_iload hc dX8_spreadPossible_32 4 rfl ?_
      refine oj_iload_n hc dX8_spreadPossible_34 rfl 2 rfl ?_
      refine oj_cS1 hc cs_X8_270 (by omega) [.int r2, .int a3] [] rfl rfl (Nat.le_of_ble_eq_true rfl) dX8_spreadPossible_35 (c_X2_ahead r2 a3 σ_13) (fun r3 => ?_)
      refine oj_istore hc [(0, .ref (ad 0)), (1, .ref (ad (31 + n1))), (3, .int a3), (4, .int v4_13), (5, .int r2), (6, .int r3)] rfl (by decide) dX8_spreadPossible_38 ?_
      refine oj_aload_n hc dX8_spreadPossible_40 rfl 1 rfl ?_
      refine oj_getf hc ff_X8_206 (oC_Ship h1) rfl dX8_spreadPossible_41 ?_
      refine oj_iload hc dX8_spreadPossible_44 4 rfl ?_
      refine oj_zald hc 1 (oC_possible h1) rfl dX8_spreadPossible_46 ?_
      refine oj_if_eq hc 70 dX8_spreadPossible_47 (by decide) (fun _ => ?_) ?_
      · refine oj_iinc hc 1 (fun u => [(0, .ref (ad 0)), (1, .ref (ad (31 + n1))), (3, .int a3), (4, .int u), (5, .int r2), (6, .int r3)]) 3 rfl kc_1 (fun _ => rfl) (by decide) dX8_spreadPossible_70 (fun x4 => ?_)
        refine oj_goto hc 13 dX8_spreadPossible_73 (by decide) ?_
        refine oj_sub [0, 1, 2, 3] rfl ?_
        exact hrec_13 x4 σ_13
      · refine oj_aload_n hc dX8_spreadPossible_50 rfl 0 rfl ?_
        refine oj_getf hc ff_X8_12 oC_OilWatch rfl dX8_spreadPossible_51 ?_
        refine oj_iload hc dX8_spreadPossible_54 5 rfl ?_
        refine oj_cV1 hc cv_X8_97 (by omega) oC_Net [.int r3] [] rfl rfl (Nat.le_of_ble_eq_true rfl) dX8_spreadPossible_56 (c_X2_isSea r3 σ_13) (fun r5 => ?_)
        refine oj_if_eq hc 70 dX8_spreadPossible_59 (by decide) (fun _ => ?_) ?_
        · refine oj_iinc hc 1 (fun u => [(0, .ref (ad 0)), (1, .ref (ad (31 + n1))), (3, .int a3), (4, .int u), (5, .int r2), (6, .int r3)]) 3 rfl kc_1 (fun _ => rfl) (by decide) dX8_spreadPossible_70 (fun x6 => ?_)
          refine oj_goto hc 13 dX8_spreadPossible_73 (by decide) ?_
          refine oj_sub [0, 1, 2, 3] rfl ?_
          exact hrec_13 x6 σ_13
        · refine oj_aload_n hc dX8_spreadPossible_62 rfl 1 rfl ?_
          refine oj_getf hc ff_X8_206 (oC_Ship h1) rfl dX8_spreadPossible_63 ?_
          refine oj_iload hc dX8_spreadPossible_66 5 rfl ?_
          refine oj_iconst hc 1 dX8_spreadPossible_68 kc_1 ?_
          refine oj_zast hc 1 (oC_possible h1) (oC_possible_s h1) rfl rfl dX8_spreadPossible_69 (fun σ7 => ?_)
          refine oj_iinc hc 1 (fun u => [(0, .ref (ad 0)), (1, .ref (ad (31 + n1))), (3, .int a3), (4, .int u), (5, .int r2), (6, .int r3)]) 3 rfl kc_1 (fun _ => rfl) (by decide) dX8_spreadPossible_70 (fun x8 => ?_)
          refine oj_goto hc 13 dX8_spreadPossible_73 (by decide) ?_
          refine oj_sub [0, 1, 2, 3] rfl ?_
          exact hrec_13 x8 σ7
def f_X8_spreadPossible (n1 : Nat) (a2 : Int32) (σ : ojS) : Option (ojS) :=
  ojB1 (f_X6_wayAt 0 a2 σ) (fun (r1 : Int32) =>
    f_X8_spreadPossible_13 n1 r1 0 σ)
set_option maxRecDepth 100000 in
set_option maxHeartbeats 4000000 in
theorem wk_X8_spreadPossible {l : Launch} {D : va_G} {E : ojE} {ad : Nat → Nat} {X : ojX} {Q : ojS → State → Prop} (hc : ojC X (vO_ l D E ad) RX8 cX8_spreadPossible 7 3) (hret : ojRv X (vO_ l D E ad) Q cX8_spreadPossible) (n1 : Nat) (h1 : n1 < 8) (a2 : Int32) (σ : ojS) : ojJ X (vO_ l D E ad) Q (f_X8_spreadPossible n1 a2 σ) σ 0 [(0, .ref (ad 0)), (1, .ref (ad (31 + n1))), (2, .int a2)] [] := by
  unfold f_X8_spreadPossible
  refine oj_aload_n hc dX8_spreadPossible_0 rfl 0 rfl ?_
  refine oj_getf hc ff_X8_26 oC_OilWatch rfl dX8_spreadPossible_1 ?_
  refine oj_iconst hc 0 dX8_spreadPossible_4 kc_0 ?_
  refine oj_iload_n hc dX8_spreadPossible_5 rfl 2 rfl ?_
  refine oj_cV1 hc cv_X8_250 (by omega) oC_Sky [.int 0, .int a2] [] rfl rfl (Nat.le_of_ble_eq_true rfl) dX8_spreadPossible_6 (c_X6_wayAt 0 a2 σ) (fun r1 => ?_)
  refine oj_istore_n hc [(0, .ref (ad 0)), (1, .ref (ad (31 + n1))), (2, .int a2), (3, .int r1)] rfl (by decide) dX8_spreadPossible_9 rfl ?_
  refine oj_iconst hc 0 dX8_spreadPossible_10 kc_0 ?_
  refine oj_istore hc [(0, .ref (ad 0)), (1, .ref (ad (31 + n1))), (2, .int a2), (3, .int r1), (4, .int 0)] rfl (by decide) dX8_spreadPossible_11 ?_
  refine oj_sub [0, 1, 3, 4] rfl ?_
  exact wk_X8_spreadPossible_13 hc hret n1 h1 r1 0 σ
set_option maxRecDepth 100000 in
theorem c_X8_spreadPossible {l : Launch} {D : va_G} {E : ojE} {ad : Nat → Nat} (n1 : Nat) (h1 : n1 < 8) (a2 : Int32) (σ : ojS) : ∀ (σ1 : ojS), f_X8_spreadPossible n1 a2 σ = some σ1 → ojMv (vO_ l D E ad) yX8_spreadPossible cX8_spreadPossible 7 none 3 [.ref (ad 0), .ref (ad (31 + n1)), .int a2] σ σ1 :=
  ojMv_W (by decide +kernel) rfl rfl (Nat.le_of_ble_eq_true rfl) rfl (fun X Q hc hret => wk_X8_spreadPossible hc hret n1 h1 a2 σ)

def f_X8_go_48 (rec_25 : ojS → Option (Int32 × ojS)) (a2 : Int32) (a3 : Int32) (σ : ojS) : Option (Int32 × ojS) :=
  ojFix (fun _ _ => none) 600 (fun (rec_48 : Int32 → ojS → Option (Int32 × ojS)) (v3_48 : Int32) (σ_48 : ojS) =>
    if (σ_48 0 9) ≤ v3_48 then
      ojLet (ojU σ_48 0 13 ((σ_48 0 13) + (σ_48 9 1))) (fun (σ5 : ojS) =>
        ojBv (f_X1_beginHour σ5) (fun (σ7 : ojS) =>
          ojLet (ojU σ7 0 10 ((σ7 0 10) + 1)) (fun (σ8 : ojS) =>
            rec_25 σ8)))
    else
      ojChk v3_48 8 (
        ojBv (f_X8_spreadPossible (v3_48.toNatClampNeg) (σ_48 0 10) σ_48) (fun (σ11 : ojS) =>
          ojLet (v3_48 + 1) (fun (x12 : Int32) =>
            rec_48 x12 σ11)))) a3 σ
set_option maxRecDepth 100000 in
set_option maxHeartbeats 4000000 in
theorem wk_X8_go_48 {l : Launch} {D : va_G} {E : ojE} {ad : Nat → Nat} {X : ojX} {Q : Int32 × ojS → State → Prop} (hc : ojC X (vO_ l D E ad) RX8 cX8_go 4 6) (hret : ojRi X (vO_ l D E ad) Q cX8_go .int) (rec_25 : ojS → Option (Int32 × ojS)) (a2 : Int32) (a3 : Int32) (σ : ojS) (hrec_25 : ∀ (σ_25 : ojS), ojJ X (vO_ l D E ad) Q (rec_25 σ_25) σ_25 25 [(0, .ref (ad 0)), (2, .int a2)] []) : ojJ X (vO_ l D E ad) Q (f_X8_go_48 rec_25 a2 a3 σ) σ 48 [(0, .ref (ad 0)), (2, .int a2), (3, .int a3)] [] := by
  unfold f_X8_go_48
  refine oj_fix (fun (r : Int32 → ojS → Option (Int32 × ojS)) => ∀ (v3_48 : Int32) (σ_48 : ojS), ojJ X (vO_ l D E ad) Q (r v3_48 σ_48) σ_48 48 [(0, .ref (ad 0)), (2, .int a2), (3, .int v3_48)] []) _ (fun _ _ => oj_none) (fun rec_48 hrec_48 v3_48 σ_48 => ?_) 600 a3 σ
  refine oj_iload_n hc dX8_go_48 rfl 2 rfl ?_
  refine oj_aload_n hc dX8_go_49 rfl 0 rfl ?_
  refine oj_getf hc ff_X8_161 oC_OilWatch rfl dX8_go_50 ?_
  refine oj_icmp_ge hc 76 dX8_go_53 (by decide) (fun _ => ?_) ?_
  · refine oj_aload_n hc dX8_go_76 rfl 0 rfl ?_
    refine oj_dup hc dX8_go_77 rfl ?_
    refine oj_getf hc ff_X8_168 oC_OilWatch rfl dX8_go_78 ?_
    refine oj_aload_n hc dX8_go_81 rfl 0 rfl ?_
    refine oj_getf hc ff_X8_33 oC_OilWatch rfl dX8_go_82 ?_
    refine oj_getf hc ff_X8_171 oC_Fleet rfl dX8_go_85 ?_
    refine oj_iadd hc dX8_go_88 ?_
    refine oj_putf hc fp_X8_168 oC_OilWatch oC_OilWatch_s13 rfl rfl (Nat.le_of_ble_eq_true rfl) dX8_go_89 (fun σ5 => ?_)
    refine oj_aload_n hc dX8_go_92 rfl 0 rfl ?_
    refine oj_getf hc ff_X8_33 oC_OilWatch rfl dX8_go_93 ?_
    refine oj_cVv hc cv_X8_174 (by omega) oC_Fleet [] [] rfl rfl (Nat.le_of_ble_eq_true rfl) dX8_go_96 (c_X1_beginHour σ5) (fun σ7 => ?_)
    refine oj_aload_n hc dX8_go_99 rfl 0 rfl ?_
    refine oj_dup hc dX8_go_100 rfl ?_
    refine oj_getf hc ff_X8_74 oC_OilWatch rfl dX8_go_101 ?_
    refine oj_iconst hc 1 dX8_go_104 kc_1 ?_
    refine oj_iadd hc dX8_go_105 ?_
    refine oj_putf hc fp_X8_74 oC_OilWatch oC_OilWatch_s10 rfl rfl (Nat.le_of_ble_eq_true rfl) dX8_go_106 (fun σ8 => ?_)
    refine oj_goto hc 25 dX8_go_109 (by decide) ?_
    refine oj_sub [0, 1] rfl ?_
    exact hrec_25 σ8
  · refine oj_aload_n hc dX8_go_56 rfl 0 rfl ?_
    refine oj_aload_n hc dX8_go_57 rfl 0 rfl ?_
    refine oj_getf hc ff_X8_57 oC_OilWatch rfl dX8_go_58 ?_
    refine oj_iload_n hc dX8_go_61 rfl 2 rfl ?_
    refine oj_aald hc 2 oC_ships rfl dX8_go_62 (fun hi9 => ?_)
    refine oj_aload_n hc dX8_go_63 rfl 0 rfl ?_
    refine oj_getf hc ff_X8_74 oC_OilWatch rfl dX8_go_64 ?_
    refine oj_cVv hc cv_X8_164 (by omega) oC_OilWatch [.ref (ad (31 + v3_48.toNatClampNeg)), .int (σ_48 0 10)] [] rfl rfl (Nat.le_of_ble_eq_true rfl) dX8_go_67 (c_X8_spreadPossible (v3_48.toNatClampNeg) hi9 (σ_48 0 10) σ_48) (fun σ11 => ?_)
    refine oj_iinc hc 1 (fun u => [(0, .ref (ad 0)), (2, .int a2), (3, .int u)]) 2 rfl kc_1 (fun _ => rfl) (by decide) dX8_go_70 (fun x12 => ?_)
    refine oj_goto hc 48 dX8_go_73 (by decide) ?_
    exact hrec_48 x12 σ11
def f_X8_go_25 (a2 : Int32) (σ : ojS) : Option (Int32 × ojS) :=
  ojFix (fun _ => none) 600 (fun (rec_25 : ojS → Option (Int32 × ojS))  (σ_25 : ojS) =>
    if a2 ≤ (σ_25 0 10) then
      some (σ_25 0 10, σ_25)
    else
      ojBv (f_X8_passHour 0 0 (σ_25 0 10) σ_25) (fun (σ4 : ojS) =>
        f_X8_go_48 rec_25 a2 0 σ4)) σ
set_option maxRecDepth 100000 in
set_option maxHeartbeats 4000000 in
theorem wk_X8_go_25 {l : Launch} {D : va_G} {E : ojE} {ad : Nat → Nat} {X : ojX} {Q : Int32 × ojS → State → Prop} (hc : ojC X (vO_ l D E ad) RX8 cX8_go 4 6) (hret : ojRi X (vO_ l D E ad) Q cX8_go .int) (a2 : Int32) (σ : ojS) : ojJ X (vO_ l D E ad) Q (f_X8_go_25 a2 σ) σ 25 [(0, .ref (ad 0)), (2, .int a2)] [] := by
  unfold f_X8_go_25
  refine oj_fix (fun (r : ojS → Option (Int32 × ojS)) => ∀ (σ_25 : ojS), ojJ X (vO_ l D E ad) Q (r σ_25) σ_25 25 [(0, .ref (ad 0)), (2, .int a2)] []) _ (fun _ => oj_none) (fun rec_25 hrec_25 σ_25 => ?_) 600 σ
  refine oj_aload_n hc dX8_go_25 rfl 0 rfl ?_
  refine oj_getf hc ff_X8_74 oC_OilWatch rfl dX8_go_26 ?_
  refine oj_iload_n hc dX8_go_29 rfl 1 rfl ?_
  refine oj_icmp_ge hc 112 dX8_go_30 (by decide) (fun _ => ?_) ?_
  · refine oj_aload_n hc dX8_go_112 rfl 0 rfl ?_
    refine oj_getf hc ff_X8_74 oC_OilWatch rfl dX8_go_113 ?_
    exact hret _ _ _ _ rfl dX8_go_116
  · refine oj_aload_n hc dX8_go_33 rfl 0 rfl ?_
    refine oj_aload_n hc dX8_go_34 rfl 0 rfl ?_
    refine oj_getf hc ff_X8_40 oC_OilWatch rfl dX8_go_35 ?_
    refine oj_iconst hc 0 dX8_go_38 kc_0 ?_
    refine oj_aload_n hc dX8_go_39 rfl 0 rfl ?_
    refine oj_getf hc ff_X8_74 oC_OilWatch rfl dX8_go_40 ?_
    refine oj_cVv hc cv_X8_157 (by omega) oC_OilWatch [.ref (ad (19 + 0)), .int 0, .int (σ_25 0 10)] [] rfl rfl (Nat.le_of_ble_eq_true rfl) dX8_go_43 (c_X8_passHour 0 oj_04 0 (σ_25 0 10) σ_25) (fun σ4 => ?_)
    refine oj_iconst hc 0 dX8_go_46 kc_0 ?_
    refine oj_istore_n hc [(0, .ref (ad 0)), (2, .int a2), (3, .int 0)] rfl (by decide) dX8_go_47 rfl ?_
    exact wk_X8_go_48 hc hret rec_25 a2 0 σ4 hrec_25
def f_X8_go (a1 : Int32) (σ : ojS) : Option (Int32 × ojS) :=
  ojB1 (f_X8_isWithin a1 0 48) (fun (r1 : Int32) =>
    if r1 = 0 then
      some ((-1), σ)
    else
      ojLet (ojMin ((σ 0 10) + a1) 500) (fun (x2 : Int32) =>
        f_X8_go_25 x2 σ))
set_option maxRecDepth 100000 in
set_option maxHeartbeats 4000000 in
theorem wk_X8_go {l : Launch} {D : va_G} {E : ojE} {ad : Nat → Nat} {X : ojX} {Q : Int32 × ojS → State → Prop} (hc : ojC X (vO_ l D E ad) RX8 cX8_go 4 6) (hret : ojRi X (vO_ l D E ad) Q cX8_go .int) (a1 : Int32) (σ : ojS) : ojJ X (vO_ l D E ad) Q (f_X8_go a1 σ) σ 0 [(0, .ref (ad 0)), (1, .int a1)] [] := by
  unfold f_X8_go
  refine oj_iload_n hc dX8_go_0 rfl 1 rfl ?_
  refine oj_iconst hc 0 dX8_go_1 kc_0 ?_
  refine oj_bipush hc 48 dX8_go_2 kb_48 ?_
  refine oj_cS1 hc cs_X8_70 (by omega) [.int a1, .int 0, .int 48] [] rfl rfl (Nat.le_of_ble_eq_true rfl) dX8_go_4 (c_X8_isWithin a1 0 48 σ) (fun r1 => ?_)
  refine oj_if_ne hc 12 dX8_go_7 (by decide) ?_ (fun _ => ?_)
  · refine oj_aload_n hc dX8_go_12 rfl 0 rfl ?_
    refine oj_getf hc ff_X8_74 oC_OilWatch rfl dX8_go_13 ?_
    refine oj_iload_n hc dX8_go_16 rfl 1 rfl ?_
    refine oj_iadd hc dX8_go_17 ?_
    refine oj_sipush hc 500 dX8_go_18 ks_500 ?_
    refine oj_mmin hc (by omega) mm_X8_152 mm_smin mm_ini mm_cmin (Nat.le_of_ble_eq_true rfl) dX8_go_21 ?_
    refine oj_nm (fun x2 => ?_)
    refine oj_istore_n hc [(0, .ref (ad 0)), (1, .int a1), (2, .int x2)] rfl (by decide) dX8_go_24 rfl ?_
    refine oj_sub [0, 2] rfl ?_
    exact wk_X8_go_25 hc hret x2 σ
  · refine oj_iconst hc (-1) dX8_go_10 kc_m1 ?_
    exact hret _ _ _ _ rfl dX8_go_11
set_option maxRecDepth 100000 in
theorem c_X8_go {l : Launch} {D : va_G} {E : ojE} {ad : Nat → Nat} (a1 : Int32) (σ : ojS) : ∀ (r : Int32) (σ1 : ojS), f_X8_go a1 σ = some (r, σ1) → ojMi (vO_ l D E ad) yX8_go cX8_go 4 (some .int) 6 [.ref (ad 0), .int a1] σ r σ1 :=
  ojMi_W (by decide +kernel) rfl .int rfl (Nat.le_of_ble_eq_true rfl) rfl (fun X Q hc hret => wk_X8_go hc hret a1 σ)

def f_X8_oil (a1 : Int32) (σ : ojS) : Option (Int32) :=
  ojB1 (f_X2_isCell a1) (fun (r1 : Int32) =>
    if r1 = 0 then
      some (-1)
    else
      ojChk a1 96 (
        some (σ (23 + 0) a1.toNatClampNeg)))
set_option maxRecDepth 100000 in
set_option maxHeartbeats 4000000 in
theorem wk_X8_oil {l : Launch} {D : va_G} {E : ojE} {ad : Nat → Nat} {X : ojX} {Q : Int32 → State → Prop} (hc : ojC X (vO_ l D E ad) RX8 cX8_oil 2 2) (σ : ojS) (hret : ojRr X (vO_ l D E ad) Q cX8_oil .int σ) (a1 : Int32) : ojJ X (vO_ l D E ad) Q (f_X8_oil a1 σ) σ 0 [(0, .ref (ad 0)), (1, .int a1)] [] := by
  unfold f_X8_oil
  refine oj_iload_n hc dX8_oil_0 rfl 1 rfl ?_
  refine oj_cS1 hc cs_X8_66 (by omega) [.int a1] [] rfl rfl (Nat.le_of_ble_eq_true rfl) dX8_oil_1 (c_X2_isCell a1 σ) (fun r1 => ?_)
  refine oj_if_eq hc 19 dX8_oil_4 (by decide) (fun _ => ?_) ?_
  · refine oj_iconst hc (-1) dX8_oil_19 kc_m1 ?_
    exact hret _ _ _ rfl dX8_oil_20
  · refine oj_aload_n hc dX8_oil_7 rfl 0 rfl ?_
    refine oj_getf hc ff_X8_40 oC_OilWatch rfl dX8_oil_8 ?_
    refine oj_getf hc ff_X8_78 (oC_Slick oj_04) rfl dX8_oil_11 ?_
    refine oj_iload_n hc dX8_oil_14 rfl 1 rfl ?_
    refine oj_iald hc 0 (oC_liters oj_04) rfl dX8_oil_15 ?_
    refine oj_goto hc 20 dX8_oil_16 (by decide) ?_
    exact hret _ _ _ rfl dX8_oil_20
set_option maxRecDepth 100000 in
theorem c_X8_oil {l : Launch} {D : va_G} {E : ojE} {ad : Nat → Nat} (a1 : Int32) (σ : ojS) : ∀ (r : Int32), f_X8_oil a1 σ = some r → ojMi (vO_ l D E ad) yX8_oil cX8_oil 2 (some .int) 2 [.ref (ad 0), .int a1] σ r σ :=
  ojMi_R (by decide +kernel) rfl .int rfl (Nat.le_of_ble_eq_true rfl) rfl (fun X Q hc hret => wk_X8_oil hc σ hret a1)

def f_X8_harmOf_4 (n1 : Nat) (a2 : Int32) (a3 : Int32) (σ : ojS) : Option (Int32) :=
  ojFix (fun _ _ => none) 600 (fun (rec_4 : Int32 → Int32 → Option (Int32)) (v2_4 : Int32) (v3_4 : Int32) =>
    if 96 ≤ v3_4 then
      some (v2_4 / 1000)
    else
      ojChk v3_4 96 (
        ojChk v3_4 96 (
          ojLet (v2_4 + ((σ (23 + n1) v3_4.toNatClampNeg) * (σ 2 v3_4.toNatClampNeg))) (fun (x1 : Int32) =>
            ojLet (v3_4 + 1) (fun (x2 : Int32) =>
              rec_4 x1 x2))))) a2 a3
set_option maxRecDepth 100000 in
set_option maxHeartbeats 4000000 in
theorem wk_X8_harmOf_4 {l : Launch} {D : va_G} {E : ojE} {ad : Nat → Nat} {X : ojX} {Q : Int32 → State → Prop} (hc : ojC X (vO_ l D E ad) RX8 cX8_harmOf 4 1) (σ : ojS) (hret : ojRr X (vO_ l D E ad) Q cX8_harmOf .int σ) (n1 : Nat) (h1 : n1 < 4) (a2 : Int32) (a3 : Int32) : ojJ X (vO_ l D E ad) Q (f_X8_harmOf_4 n1 a2 a3 σ) σ 4 [(0, .ref (ad 0)), (1, .ref (ad (19 + n1))), (2, .int a2), (3, .int a3)] [] := by
  unfold f_X8_harmOf_4
  refine oj_fix (fun (r : Int32 → Int32 → Option (Int32)) => ∀ (v2_4 : Int32) (v3_4 : Int32), ojJ X (vO_ l D E ad) Q (r v2_4 v3_4) σ 4 [(0, .ref (ad 0)), (1, .ref (ad (19 + n1))), (2, .int v2_4), (3, .int v3_4)] []) _ (fun _ _ => oj_none) (fun rec_4 hrec_4 v2_4 v3_4 => ?_) 600 a2 a3
  refine oj_iload_n hc dX8_harmOf_4 rfl 3 rfl ?_
  refine oj_bipush hc 96 dX8_harmOf_5 kb_96 ?_
  refine oj_icmp_ge hc 35 dX8_harmOf_7 (by decide) (fun _ => ?_) ?_
  · refine oj_iload_n hc dX8_harmOf_35 rfl 2 rfl ?_
    refine oj_sipush hc 1000 dX8_harmOf_36 ks_1000 ?_
    refine oj_idiv hc dX8_harmOf_39 (by decide) ?_
    exact hret _ _ _ rfl dX8_harmOf_40
  · refine oj_iload_n hc dX8_harmOf_10 rfl 2 rfl ?_
    refine oj_aload_n hc dX8_harmOf_11 rfl 1 rfl ?_
    refine oj_getf hc ff_X8_78 (oC_Slick h1) rfl dX8_harmOf_12 ?_
    refine oj_iload_n hc dX8_harmOf_15 rfl 3 rfl ?_
    refine oj_iald hc 0 (oC_liters h1) rfl dX8_harmOf_16 ?_
    refine oj_aload_n hc dX8_harmOf_17 rfl 0 rfl ?_
    refine oj_getf hc ff_X8_12 oC_OilWatch rfl dX8_harmOf_18 ?_
    refine oj_getf hc ff_X8_90 oC_Net rfl dX8_harmOf_21 ?_
    refine oj_iload_n hc dX8_harmOf_24 rfl 3 rfl ?_
    refine oj_iald hc 0 oC_ranks rfl dX8_harmOf_25 ?_
    refine oj_imul hc dX8_harmOf_26 ?_
    refine oj_iadd hc dX8_harmOf_27 ?_
    refine oj_nm (fun x1 => ?_)
    refine oj_istore_n hc [(0, .ref (ad 0)), (1, .ref (ad (19 + n1))), (2, .int x1), (3, .int v3_4)] rfl (by decide) dX8_harmOf_28 rfl ?_
    refine oj_iinc hc 1 (fun u => [(0, .ref (ad 0)), (1, .ref (ad (19 + n1))), (2, .int x1), (3, .int u)]) 3 rfl kc_1 (fun _ => rfl) (by decide) dX8_harmOf_29 (fun x2 => ?_)
    refine oj_goto hc 4 dX8_harmOf_32 (by decide) ?_
    exact hrec_4 x1 x2
def f_X8_harmOf (n1 : Nat) (σ : ojS) : Option (Int32) :=
  f_X8_harmOf_4 n1 0 0 σ
set_option maxRecDepth 100000 in
set_option maxHeartbeats 4000000 in
theorem wk_X8_harmOf {l : Launch} {D : va_G} {E : ojE} {ad : Nat → Nat} {X : ojX} {Q : Int32 → State → Prop} (hc : ojC X (vO_ l D E ad) RX8 cX8_harmOf 4 1) (σ : ojS) (hret : ojRr X (vO_ l D E ad) Q cX8_harmOf .int σ) (n1 : Nat) (h1 : n1 < 4) : ojJ X (vO_ l D E ad) Q (f_X8_harmOf n1 σ) σ 0 [(0, .ref (ad 0)), (1, .ref (ad (19 + n1)))] [] := by
  unfold f_X8_harmOf
  refine oj_iconst hc 0 dX8_harmOf_0 kc_0 ?_
  refine oj_istore_n hc [(0, .ref (ad 0)), (1, .ref (ad (19 + n1))), (2, .int 0)] rfl (by decide) dX8_harmOf_1 rfl ?_
  refine oj_iconst hc 0 dX8_harmOf_2 kc_0 ?_
  refine oj_istore_n hc [(0, .ref (ad 0)), (1, .ref (ad (19 + n1))), (2, .int 0), (3, .int 0)] rfl (by decide) dX8_harmOf_3 rfl ?_
  exact wk_X8_harmOf_4 hc _ hret n1 h1 0 0
set_option maxRecDepth 100000 in
theorem c_X8_harmOf {l : Launch} {D : va_G} {E : ojE} {ad : Nat → Nat} (n1 : Nat) (h1 : n1 < 4) (σ : ojS) : ∀ (r : Int32), f_X8_harmOf n1 σ = some r → ojMi (vO_ l D E ad) yX8_harmOf cX8_harmOf 4 (some .int) 1 [.ref (ad 0), .ref (ad (19 + n1))] σ r σ :=
  ojMi_R (by decide +kernel) rfl .int rfl (Nat.le_of_ble_eq_true rfl) rfl (fun X Q hc hret => wk_X8_harmOf hc σ hret n1 h1)

def f_X8_harmAhead_18 (a1 : Int32) (a2 : Int32) (n3 : Nat) (a4 : Int32) (σ : ojS) : Option (Int32 × ojS) :=
  ojFix (fun _ _ => none) 600 (fun (rec_18 : Int32 → ojS → Option (Int32 × ojS)) (v4_18 : Int32) (σ_18 : ojS) =>
    if a2 ≤ v4_18 then
      ojB1 (f_X8_harmOf n3 σ_18) (fun (r4 : Int32) =>
        some (r4, σ_18))
    else
      ojBv (f_X8_passHour n3 a1 ((σ_18 0 10) + v4_18) σ_18) (fun (σ6 : ojS) =>
        ojLet (v4_18 + 1) (fun (x7 : Int32) =>
          rec_18 x7 σ6))) a4 σ
set_option maxRecDepth 100000 in
set_option maxHeartbeats 4000000 in
theorem wk_X8_harmAhead_18 {l : Launch} {D : va_G} {E : ojE} {ad : Nat → Nat} {X : ojX} {Q : Int32 × ojS → State → Prop} (hc : ojC X (vO_ l D E ad) RX8 cX8_harmAhead 5 6) (hret : ojRi X (vO_ l D E ad) Q cX8_harmAhead .int) (a1 : Int32) (a2 : Int32) (n3 : Nat) (h3 : n3 < 4) (a4 : Int32) (σ : ojS) : ojJ X (vO_ l D E ad) Q (f_X8_harmAhead_18 a1 a2 n3 a4 σ) σ 18 [(0, .ref (ad 0)), (1, .int a1), (2, .int a2), (3, .ref (ad (19 + n3))), (4, .int a4)] [] := by
  unfold f_X8_harmAhead_18
  refine oj_fix (fun (r : Int32 → ojS → Option (Int32 × ojS)) => ∀ (v4_18 : Int32) (σ_18 : ojS), ojJ X (vO_ l D E ad) Q (r v4_18 σ_18) σ_18 18 [(0, .ref (ad 0)), (1, .int a1), (2, .int a2), (3, .ref (ad (19 + n3))), (4, .int v4_18)] []) _ (fun _ _ => oj_none) (fun rec_18 hrec_18 v4_18 σ_18 => ?_) 600 a4 σ
  refine oj_iload hc dX8_harmAhead_18 4 rfl ?_
  refine oj_iload_n hc dX8_harmAhead_20 rfl 2 rfl ?_
  refine oj_icmp_ge hc 43 dX8_harmAhead_21 (by decide) (fun _ => ?_) ?_
  · refine oj_aload_n hc dX8_harmAhead_43 rfl 0 rfl ?_
    refine oj_aload_n hc dX8_harmAhead_44 rfl 3 rfl ?_
    refine oj_cV1 hc cv_X8_240 (by omega) oC_OilWatch [.ref (ad (19 + n3))] [] rfl rfl (Nat.le_of_ble_eq_true rfl) dX8_harmAhead_45 (c_X8_harmOf n3 h3 σ_18) (fun r4 => ?_)
    exact hret _ _ _ _ rfl dX8_harmAhead_48
  · refine oj_aload_n hc dX8_harmAhead_24 rfl 0 rfl ?_
    refine oj_aload_n hc dX8_harmAhead_25 rfl 3 rfl ?_
    refine oj_iload_n hc dX8_harmAhead_26 rfl 1 rfl ?_
    refine oj_aload_n hc dX8_harmAhead_27 rfl 0 rfl ?_
    refine oj_getf hc ff_X8_74 oC_OilWatch rfl dX8_harmAhead_28 ?_
    refine oj_iload hc dX8_harmAhead_31 4 rfl ?_
    refine oj_iadd hc dX8_harmAhead_33 ?_
    refine oj_cVv hc cv_X8_157 (by omega) oC_OilWatch [.ref (ad (19 + n3)), .int a1, .int ((σ_18 0 10) + v4_18)] [] rfl rfl (Nat.le_of_ble_eq_true rfl) dX8_harmAhead_34 (c_X8_passHour n3 h3 a1 ((σ_18 0 10) + v4_18) σ_18) (fun σ6 => ?_)
    refine oj_iinc hc 1 (fun u => [(0, .ref (ad 0)), (1, .int a1), (2, .int a2), (3, .ref (ad (19 + n3))), (4, .int u)]) 4 rfl kc_1 (fun _ => rfl) (by decide) dX8_harmAhead_37 (fun x7 => ?_)
    refine oj_goto hc 18 dX8_harmAhead_40 (by decide) ?_
    exact hrec_18 x7 σ6
def f_X8_harmAhead (a1 : Int32) (a2 : Int32) (σ : ojS) : Option (Int32 × ojS) :=
  ojChk 0 3 (
    ojBv (f_X7_become (1 + (0 : Int32).toNatClampNeg) 0 σ) (fun (σ3 : ojS) =>
      f_X8_harmAhead_18 a1 a2 (1 + (0 : Int32).toNatClampNeg) 0 σ3))
set_option maxRecDepth 100000 in
set_option maxHeartbeats 4000000 in
theorem wk_X8_harmAhead {l : Launch} {D : va_G} {E : ojE} {ad : Nat → Nat} {X : ojX} {Q : Int32 × ojS → State → Prop} (hc : ojC X (vO_ l D E ad) RX8 cX8_harmAhead 5 6) (hret : ojRi X (vO_ l D E ad) Q cX8_harmAhead .int) (a1 : Int32) (a2 : Int32) (σ : ojS) : ojJ X (vO_ l D E ad) Q (f_X8_harmAhead a1 a2 σ) σ 0 [(0, .ref (ad 0)), (1, .int a1), (2, .int a2)] [] := by
  unfold f_X8_harmAhead
  refine oj_aload_n hc dX8_harmAhead_0 rfl 0 rfl ?_
  refine oj_getf hc ff_X8_44 oC_OilWatch rfl dX8_harmAhead_1 ?_
  refine oj_iconst hc 0 dX8_harmAhead_4 kc_0 ?_
  refine oj_aald hc 4 oC_trials rfl dX8_harmAhead_5 (fun hi1 => ?_)
  refine oj_astore_n hc [(0, .ref (ad 0)), (1, .int a1), (2, .int a2), (3, .ref (ad (19 + (1 + (0 : Int32).toNatClampNeg))))] rfl (by decide) dX8_harmAhead_6 rfl ?_
  refine oj_aload_n hc dX8_harmAhead_7 rfl 3 rfl ?_
  refine oj_aload_n hc dX8_harmAhead_8 rfl 0 rfl ?_
  refine oj_getf hc ff_X8_40 oC_OilWatch rfl dX8_harmAhead_9 ?_
  refine oj_cVv hc cv_X8_187 (by omega) (oC_Slick (oj_lt1 hi1)) [.ref (ad (19 + 0))] [] rfl rfl (Nat.le_of_ble_eq_true rfl) dX8_harmAhead_12 (c_X7_become (1 + (0 : Int32).toNatClampNeg) (oj_lt1 hi1) 0 oj_04 σ) (fun σ3 => ?_)
  refine oj_iconst hc 0 dX8_harmAhead_15 kc_0 ?_
  refine oj_istore hc [(0, .ref (ad 0)), (1, .int a1), (2, .int a2), (3, .ref (ad (19 + (1 + (0 : Int32).toNatClampNeg)))), (4, .int 0)] rfl (by decide) dX8_harmAhead_16 ?_
  exact wk_X8_harmAhead_18 hc hret a1 a2 (1 + (0 : Int32).toNatClampNeg) (oj_lt1 hi1) 0 σ3
set_option maxRecDepth 100000 in
theorem c_X8_harmAhead {l : Launch} {D : va_G} {E : ojE} {ad : Nat → Nat} (a1 : Int32) (a2 : Int32) (σ : ojS) : ∀ (r : Int32) (σ1 : ojS), f_X8_harmAhead a1 a2 σ = some (r, σ1) → ojMi (vO_ l D E ad) yX8_harmAhead cX8_harmAhead 5 (some .int) 6 [.ref (ad 0), .int a1, .int a2] σ r σ1 :=
  ojMi_W (by decide +kernel) rfl .int rfl (Nat.le_of_ble_eq_true rfl) rfl (fun X Q hc hret => wk_X8_harmAhead hc hret a1 a2 σ)

def f_X8_foretold (a1 : Int32) (a2 : Int32) (σ : ojS) : Option (Int32 × ojS) :=
  ojB1 (f_X8_isWithin a1 0 2) (fun (r1 : Int32) =>
    if r1 = 0 then
      some ((-1), σ)
    else
      ojB1 (f_X8_isWithin a2 0 48) (fun (r2 : Int32) =>
        if r2 = 0 then
          some ((-1), σ)
        else
          ojB2 (f_X8_harmAhead a1 a2 σ) (fun (r3 : Int32) (σ4 : ojS) =>
            some (r3, σ4))))
set_option maxRecDepth 100000 in
set_option maxHeartbeats 4000000 in
theorem wk_X8_foretold {l : Launch} {D : va_G} {E : ojE} {ad : Nat → Nat} {X : ojX} {Q : Int32 × ojS → State → Prop} (hc : ojC X (vO_ l D E ad) RX8 cX8_foretold 3 7) (hret : ojRi X (vO_ l D E ad) Q cX8_foretold .int) (a1 : Int32) (a2 : Int32) (σ : ojS) : ojJ X (vO_ l D E ad) Q (f_X8_foretold a1 a2 σ) σ 0 [(0, .ref (ad 0)), (1, .int a1), (2, .int a2)] [] := by
  unfold f_X8_foretold
  refine oj_iload_n hc dX8_foretold_0 rfl 1 rfl ?_
  refine oj_iconst hc 0 dX8_foretold_1 kc_0 ?_
  refine oj_iconst hc 2 dX8_foretold_2 kc_2 ?_
  refine oj_cS1 hc cs_X8_70 (by omega) [.int a1, .int 0, .int 2] [] rfl rfl (Nat.le_of_ble_eq_true rfl) dX8_foretold_3 (c_X8_isWithin a1 0 2 σ) (fun r1 => ?_)
  refine oj_if_eq hc 19 dX8_foretold_6 (by decide) (fun _ => ?_) ?_
  · refine oj_iconst hc (-1) dX8_foretold_19 kc_m1 ?_
    exact hret _ _ _ _ rfl dX8_foretold_20
  · refine oj_iload_n hc dX8_foretold_9 rfl 2 rfl ?_
    refine oj_iconst hc 0 dX8_foretold_10 kc_0 ?_
    refine oj_bipush hc 48 dX8_foretold_11 kb_48 ?_
    refine oj_cS1 hc cs_X8_70 (by omega) [.int a2, .int 0, .int 48] [] rfl rfl (Nat.le_of_ble_eq_true rfl) dX8_foretold_13 (c_X8_isWithin a2 0 48 σ) (fun r2 => ?_)
    refine oj_if_ne hc 21 dX8_foretold_16 (by decide) ?_ (fun _ => ?_)
    · refine oj_aload_n hc dX8_foretold_21 rfl 0 rfl ?_
      refine oj_iload_n hc dX8_foretold_22 rfl 1 rfl ?_
      refine oj_iload_n hc dX8_foretold_23 rfl 2 rfl ?_
      refine oj_cV2 hc cv_X8_177 (by omega) oC_OilWatch [.int a1, .int a2] [] rfl rfl (Nat.le_of_ble_eq_true rfl) dX8_foretold_24 (c_X8_harmAhead a1 a2 σ) (fun r3 σ4 => ?_)
      exact hret _ _ _ _ rfl dX8_foretold_27
    · refine oj_iconst hc (-1) dX8_foretold_19 kc_m1 ?_
      exact hret _ _ _ _ rfl dX8_foretold_20
set_option maxRecDepth 100000 in
theorem c_X8_foretold {l : Launch} {D : va_G} {E : ojE} {ad : Nat → Nat} (a1 : Int32) (a2 : Int32) (σ : ojS) : ∀ (r : Int32) (σ1 : ojS), f_X8_foretold a1 a2 σ = some (r, σ1) → ojMi (vO_ l D E ad) yX8_foretold cX8_foretold 3 (some .int) 7 [.ref (ad 0), .int a1, .int a2] σ r σ1 :=
  ojMi_W (by decide +kernel) rfl .int rfl (Nat.le_of_ble_eq_true rfl) rfl (fun X Q hc hret => wk_X8_foretold hc hret a1 a2 σ)

def f_X8_worst_16 (a1 : Int32) (a2 : Int32) (a3 : Int32) (σ : ojS) : Option (Int32 × ojS) :=
  ojFix (fun _ _ _ => none) 600 (fun (rec_16 : Int32 → Int32 → ojS → Option (Int32 × ojS)) (v2_16 : Int32) (v3_16 : Int32) (σ_16 : ojS) =>
    if 3 ≤ v3_16 then
      some (v2_16, σ_16)
    else
      ojB2 (f_X8_harmAhead v3_16 a1 σ_16) (fun (r2 : Int32) (σ3 : ojS) =>
        ojLet (ojMax v2_16 r2) (fun (x4 : Int32) =>
          ojLet (v3_16 + 1) (fun (x5 : Int32) =>
            rec_16 x4 x5 σ3)))) a2 a3 σ
set_option maxRecDepth 100000 in
set_option maxHeartbeats 4000000 in
theorem wk_X8_worst_16 {l : Launch} {D : va_G} {E : ojE} {ad : Nat → Nat} {X : ojX} {Q : Int32 × ojS → State → Prop} (hc : ojC X (vO_ l D E ad) RX8 cX8_worst 4 7) (hret : ojRi X (vO_ l D E ad) Q cX8_worst .int) (a1 : Int32) (a2 : Int32) (a3 : Int32) (σ : ojS) : ojJ X (vO_ l D E ad) Q (f_X8_worst_16 a1 a2 a3 σ) σ 16 [(0, .ref (ad 0)), (1, .int a1), (2, .int a2), (3, .int a3)] [] := by
  unfold f_X8_worst_16
  refine oj_fix (fun (r : Int32 → Int32 → ojS → Option (Int32 × ojS)) => ∀ (v2_16 : Int32) (v3_16 : Int32) (σ_16 : ojS), ojJ X (vO_ l D E ad) Q (r v2_16 v3_16 σ_16) σ_16 16 [(0, .ref (ad 0)), (1, .int a1), (2, .int v2_16), (3, .int v3_16)] []) _ (fun _ _ _ => oj_none) (fun rec_16 hrec_16 v2_16 v3_16 σ_16 => ?_) 600 a2 a3 σ
  refine oj_iload_n hc dX8_worst_16 rfl 3 rfl ?_
  refine oj_iconst hc 3 dX8_worst_17 kc_3 ?_
  refine oj_icmp_ge hc 38 dX8_worst_18 (by decide) (fun _ => ?_) ?_
  · refine oj_iload_n hc dX8_worst_38 rfl 2 rfl ?_
    exact hret _ _ _ _ rfl dX8_worst_39
  · refine oj_iload_n hc dX8_worst_21 rfl 2 rfl ?_
    refine oj_aload_n hc dX8_worst_22 rfl 0 rfl ?_
    refine oj_iload_n hc dX8_worst_23 rfl 3 rfl ?_
    refine oj_iload_n hc dX8_worst_24 rfl 1 rfl ?_
    refine oj_cV2 hc cv_X8_177 (by omega) oC_OilWatch [.int v3_16, .int a1] [.int v2_16] rfl rfl (Nat.le_of_ble_eq_true rfl) dX8_worst_25 (c_X8_harmAhead v3_16 a1 σ_16) (fun r2 σ3 => ?_)
    refine oj_mmax hc (by omega) mm_X8_180 mm_smax mm_ini mm_cmax (Nat.le_of_ble_eq_true rfl) dX8_worst_28 ?_
    refine oj_nm (fun x4 => ?_)
    refine oj_istore_n hc [(0, .ref (ad 0)), (1, .int a1), (2, .int x4), (3, .int v3_16)] rfl (by decide) dX8_worst_31 rfl ?_
    refine oj_iinc hc 1 (fun u => [(0, .ref (ad 0)), (1, .int a1), (2, .int x4), (3, .int u)]) 3 rfl kc_1 (fun _ => rfl) (by decide) dX8_worst_32 (fun x5 => ?_)
    refine oj_goto hc 16 dX8_worst_35 (by decide) ?_
    exact hrec_16 x4 x5 σ3
def f_X8_worst (a1 : Int32) (σ : ojS) : Option (Int32 × ojS) :=
  ojB1 (f_X8_isWithin a1 0 48) (fun (r1 : Int32) =>
    if r1 = 0 then
      some ((-1), σ)
    else
      f_X8_worst_16 a1 0 0 σ)
set_option maxRecDepth 100000 in
set_option maxHeartbeats 4000000 in
theorem wk_X8_worst {l : Launch} {D : va_G} {E : ojE} {ad : Nat → Nat} {X : ojX} {Q : Int32 × ojS → State → Prop} (hc : ojC X (vO_ l D E ad) RX8 cX8_worst 4 7) (hret : ojRi X (vO_ l D E ad) Q cX8_worst .int) (a1 : Int32) (σ : ojS) : ojJ X (vO_ l D E ad) Q (f_X8_worst a1 σ) σ 0 [(0, .ref (ad 0)), (1, .int a1)] [] := by
  unfold f_X8_worst
  refine oj_iload_n hc dX8_worst_0 rfl 1 rfl ?_
  refine oj_iconst hc 0 dX8_worst_1 kc_0 ?_
  refine oj_bipush hc 48 dX8_worst_2 kb_48 ?_
  refine oj_cS1 hc cs_X8_70 (by omega) [.int a1, .int 0, .int 48] [] rfl rfl (Nat.le_of_ble_eq_true rfl) dX8_worst_4 (c_X8_isWithin a1 0 48 σ) (fun r1 => ?_)
  refine oj_if_ne hc 12 dX8_worst_7 (by decide) ?_ (fun _ => ?_)
  · refine oj_iconst hc 0 dX8_worst_12 kc_0 ?_
    refine oj_istore_n hc [(0, .ref (ad 0)), (1, .int a1), (2, .int 0)] rfl (by decide) dX8_worst_13 rfl ?_
    refine oj_iconst hc 0 dX8_worst_14 kc_0 ?_
    refine oj_istore_n hc [(0, .ref (ad 0)), (1, .int a1), (2, .int 0), (3, .int 0)] rfl (by decide) dX8_worst_15 rfl ?_
    exact wk_X8_worst_16 hc hret a1 0 0 σ
  · refine oj_iconst hc (-1) dX8_worst_10 kc_m1 ?_
    exact hret _ _ _ _ rfl dX8_worst_11
set_option maxRecDepth 100000 in
theorem c_X8_worst {l : Launch} {D : va_G} {E : ojE} {ad : Nat → Nat} (a1 : Int32) (σ : ojS) : ∀ (r : Int32) (σ1 : ojS), f_X8_worst a1 σ = some (r, σ1) → ojMi (vO_ l D E ad) yX8_worst cX8_worst 4 (some .int) 7 [.ref (ad 0), .int a1] σ r σ1 :=
  ojMi_W (by decide +kernel) rfl .int rfl (Nat.le_of_ble_eq_true rfl) rfl (fun X Q hc hret => wk_X8_worst hc hret a1 σ)

def f_X8_litersAfloat_4 (n1 : Nat) (a2 : Int32) (a3 : Int32) (σ : ojS) : Option (Int32) :=
  ojFix (fun _ _ => none) 600 (fun (rec_4 : Int32 → Int32 → Option (Int32)) (v2_4 : Int32) (v3_4 : Int32) =>
    if 96 ≤ v3_4 then
      some v2_4
    else
      ojB1 (f_X2_isSea v3_4 σ) (fun (r1 : Int32) =>
        if r1 = 0 then
          ojLet (v2_4 + 0) (fun (x2 : Int32) =>
            ojLet (v3_4 + 1) (fun (x3 : Int32) =>
              rec_4 x2 x3))
        else
          ojChk v3_4 96 (
            ojLet (v2_4 + (σ (23 + n1) v3_4.toNatClampNeg)) (fun (x4 : Int32) =>
              ojLet (v3_4 + 1) (fun (x5 : Int32) =>
                rec_4 x4 x5))))) a2 a3
set_option maxRecDepth 100000 in
set_option maxHeartbeats 4000000 in
theorem wk_X8_litersAfloat_4 {l : Launch} {D : va_G} {E : ojE} {ad : Nat → Nat} {X : ojX} {Q : Int32 → State → Prop} (hc : ojC X (vO_ l D E ad) RX8 cX8_litersAfloat 4 3) (σ : ojS) (hret : ojRr X (vO_ l D E ad) Q cX8_litersAfloat .int σ) (n1 : Nat) (h1 : n1 < 4) (a2 : Int32) (a3 : Int32) : ojJ X (vO_ l D E ad) Q (f_X8_litersAfloat_4 n1 a2 a3 σ) σ 4 [(0, .ref (ad 0)), (1, .ref (ad (19 + n1))), (2, .int a2), (3, .int a3)] [] := by
  unfold f_X8_litersAfloat_4
  refine oj_fix (fun (r : Int32 → Int32 → Option (Int32)) => ∀ (v2_4 : Int32) (v3_4 : Int32), ojJ X (vO_ l D E ad) Q (r v2_4 v3_4) σ 4 [(0, .ref (ad 0)), (1, .ref (ad (19 + n1))), (2, .int v2_4), (3, .int v3_4)] []) _ (fun _ _ => oj_none) (fun rec_4 hrec_4 v2_4 v3_4 => ?_) 600 a2 a3
  refine oj_iload_n hc dX8_litersAfloat_4 rfl 3 rfl ?_
  refine oj_bipush hc 96 dX8_litersAfloat_5 kb_96 ?_
  refine oj_icmp_ge hc 40 dX8_litersAfloat_7 (by decide) (fun _ => ?_) ?_
  · refine oj_iload_n hc dX8_litersAfloat_40 rfl 2 rfl ?_
    exact hret _ _ _ rfl dX8_litersAfloat_41
  · refine oj_iload_n hc dX8_litersAfloat_10 rfl 2 rfl ?_
    refine oj_aload_n hc dX8_litersAfloat_11 rfl 0 rfl ?_
    refine oj_getf hc ff_X8_12 oC_OilWatch rfl dX8_litersAfloat_12 ?_
    refine oj_iload_n hc dX8_litersAfloat_15 rfl 3 rfl ?_
    refine oj_cV1 hc cv_X8_97 (by omega) oC_Net [.int v3_4] [.int v2_4] rfl rfl (Nat.le_of_ble_eq_true rfl) dX8_litersAfloat_16 (c_X2_isSea v3_4 σ) (fun r1 => ?_)
    refine oj_if_eq hc 31 dX8_litersAfloat_19 (by decide) (fun _ => ?_) ?_
    · refine oj_iconst hc 0 dX8_litersAfloat_31 kc_0 ?_
      refine oj_iadd hc dX8_litersAfloat_32 ?_
      refine oj_nm (fun x2 => ?_)
      refine oj_istore_n hc [(0, .ref (ad 0)), (1, .ref (ad (19 + n1))), (2, .int x2), (3, .int v3_4)] rfl (by decide) dX8_litersAfloat_33 rfl ?_
      refine oj_iinc hc 1 (fun u => [(0, .ref (ad 0)), (1, .ref (ad (19 + n1))), (2, .int x2), (3, .int u)]) 3 rfl kc_1 (fun _ => rfl) (by decide) dX8_litersAfloat_34 (fun x3 => ?_)
      refine oj_goto hc 4 dX8_litersAfloat_37 (by decide) ?_
      exact hrec_4 x2 x3
    · refine oj_aload_n hc dX8_litersAfloat_22 rfl 1 rfl ?_
      refine oj_getf hc ff_X8_78 (oC_Slick h1) rfl dX8_litersAfloat_23 ?_
      refine oj_iload_n hc dX8_litersAfloat_26 rfl 3 rfl ?_
      refine oj_iald hc 0 (oC_liters h1) rfl dX8_litersAfloat_27 ?_
      refine oj_goto hc 32 dX8_litersAfloat_28 (by decide) ?_
      refine oj_iadd hc dX8_litersAfloat_32 ?_
      refine oj_nm (fun x4 => ?_)
      refine oj_istore_n hc [(0, .ref (ad 0)), (1, .ref (ad (19 + n1))), (2, .int x4), (3, .int v3_4)] rfl (by decide) dX8_litersAfloat_33 rfl ?_
      refine oj_iinc hc 1 (fun u => [(0, .ref (ad 0)), (1, .ref (ad (19 + n1))), (2, .int x4), (3, .int u)]) 3 rfl kc_1 (fun _ => rfl) (by decide) dX8_litersAfloat_34 (fun x5 => ?_)
      refine oj_goto hc 4 dX8_litersAfloat_37 (by decide) ?_
      exact hrec_4 x4 x5
def f_X8_litersAfloat (n1 : Nat) (σ : ojS) : Option (Int32) :=
  f_X8_litersAfloat_4 n1 0 0 σ
set_option maxRecDepth 100000 in
set_option maxHeartbeats 4000000 in
theorem wk_X8_litersAfloat {l : Launch} {D : va_G} {E : ojE} {ad : Nat → Nat} {X : ojX} {Q : Int32 → State → Prop} (hc : ojC X (vO_ l D E ad) RX8 cX8_litersAfloat 4 3) (σ : ojS) (hret : ojRr X (vO_ l D E ad) Q cX8_litersAfloat .int σ) (n1 : Nat) (h1 : n1 < 4) : ojJ X (vO_ l D E ad) Q (f_X8_litersAfloat n1 σ) σ 0 [(0, .ref (ad 0)), (1, .ref (ad (19 + n1)))] [] := by
  unfold f_X8_litersAfloat
  refine oj_iconst hc 0 dX8_litersAfloat_0 kc_0 ?_
  refine oj_istore_n hc [(0, .ref (ad 0)), (1, .ref (ad (19 + n1))), (2, .int 0)] rfl (by decide) dX8_litersAfloat_1 rfl ?_
  refine oj_iconst hc 0 dX8_litersAfloat_2 kc_0 ?_
  refine oj_istore_n hc [(0, .ref (ad 0)), (1, .ref (ad (19 + n1))), (2, .int 0), (3, .int 0)] rfl (by decide) dX8_litersAfloat_3 rfl ?_
  exact wk_X8_litersAfloat_4 hc _ hret n1 h1 0 0
set_option maxRecDepth 100000 in
theorem c_X8_litersAfloat {l : Launch} {D : va_G} {E : ojE} {ad : Nat → Nat} (n1 : Nat) (h1 : n1 < 4) (σ : ojS) : ∀ (r : Int32), f_X8_litersAfloat n1 σ = some r → ojMi (vO_ l D E ad) yX8_litersAfloat cX8_litersAfloat 4 (some .int) 3 [.ref (ad 0), .ref (ad (19 + n1))] σ r σ :=
  ojMi_R (by decide +kernel) rfl .int rfl (Nat.le_of_ble_eq_true rfl) rfl (fun X Q hc hret => wk_X8_litersAfloat hc σ hret n1 h1)

def f_X8_searchFrom_12 (rec0 : Int32 → Int32 → Int32 → ojS → Option ojS) (a1 : Int32) (a2 : Int32) (a3 : Int32) (σ : ojS) : Option (ojS) :=
  ojLet (a1 + 1) (fun (x1 : Int32) =>
    if (σ 12 1) ≤ x1 then
      ojLet (ojU σ 12 3 a3) (fun (σ2 : ojS) =>
        ojLet (ojU σ2 12 4 (σ2 12 2)) (fun (σ3 : ojS) =>
          some σ3))
    else
      if x1 < 3 then
        ojChk x1 3 (
          ojChk a1 3 (
            ojBv (f_X7_become (1 + x1.toNatClampNeg) (1 + a1.toNatClampNeg) σ) (fun (σ7 : ojS) =>
              ojChk x1 3 (
                ojBv (f_X1_take (1 + x1.toNatClampNeg) (σ7 12 0) a2 σ7) (fun (σ10 : ojS) =>
                  ojChk x1 3 (
                    ojBv (f_X1_skim (1 + x1.toNatClampNeg) ((σ10 12 0) + 1) (σ10 9 1) σ10) (fun (σ13 : ojS) =>
                      ojBv (rec0 x1 a2 a3 σ13) (fun (σ15 : ojS) =>
                        some σ15))))))))
      else
        ojLet (ojU σ 12 3 a3) (fun (σ16 : ojS) =>
          ojLet (ojU σ16 12 4 (σ16 12 2)) (fun (σ17 : ojS) =>
            some σ17)))
set_option maxRecDepth 100000 in
set_option maxHeartbeats 4000000 in
theorem wk_X8_searchFrom_12 {l : Launch} {D : va_G} {E : ojE} {ad : Nat → Nat} {X : ojX} {Q : ojS → State → Prop} {dd : Nat} (hc : ojC X (vO_ l D E ad) RX8 cX8_searchFrom 5 (12 + 1 + 2 * dd)) (hret : ojRv X (vO_ l D E ad) Q cX8_searchFrom) (rec0 : Int32 → Int32 → Int32 → ojS → Option ojS) (hself : ∀ (x1 x2 x3 : Int32) (s s1 : ojS), rec0 x1 x2 x3 s = some s1 → ojMv (vO_ l D E ad) yX8_searchHour cX8_searchHour 10 none (12 + 2 * dd) [.ref (ad 0), .int x1, .int x2, .int x3] s s1) (a1 : Int32) (a2 : Int32) (a3 : Int32) (σ : ojS) : ojJ X (vO_ l D E ad) Q (f_X8_searchFrom_12 rec0 a1 a2 a3 σ) σ 12 [(0, .ref (ad 0)), (1, .int a1), (2, .int a2), (3, .int a3)] [] := by
  unfold f_X8_searchFrom_12
  refine oj_iload_n hc dX8_searchFrom_12 rfl 1 rfl ?_
  refine oj_iconst hc 1 dX8_searchFrom_13 kc_1 ?_
  refine oj_iadd hc dX8_searchFrom_14 ?_
  refine oj_nm (fun x1 => ?_)
  refine oj_istore hc [(0, .ref (ad 0)), (1, .int a1), (2, .int a2), (3, .int a3), (4, .int x1)] rfl (by decide) dX8_searchFrom_15 ?_
  refine oj_iload hc dX8_searchFrom_17 4 rfl ?_
  refine oj_aload_n hc dX8_searchFrom_19 rfl 0 rfl ?_
  refine oj_getf hc ff_X8_51 oC_OilWatch rfl dX8_searchFrom_20 ?_
  refine oj_getf hc ff_X8_282 oC_Outing rfl dX8_searchFrom_23 ?_
  refine oj_icmp_ge hc 35 dX8_searchFrom_26 (by decide) (fun _ => ?_) ?_
  · refine oj_aload_n hc dX8_searchFrom_35 rfl 0 rfl ?_
    refine oj_getf hc ff_X8_51 oC_OilWatch rfl dX8_searchFrom_36 ?_
    refine oj_iload_n hc dX8_searchFrom_39 rfl 3 rfl ?_
    refine oj_putf hc fp_X8_195 oC_Outing oC_Outing_s3 rfl rfl (Nat.le_of_ble_eq_true rfl) dX8_searchFrom_40 (fun σ2 => ?_)
    refine oj_aload_n hc dX8_searchFrom_43 rfl 0 rfl ?_
    refine oj_getf hc ff_X8_51 oC_OilWatch rfl dX8_searchFrom_44 ?_
    refine oj_aload_n hc dX8_searchFrom_47 rfl 0 rfl ?_
    refine oj_getf hc ff_X8_51 oC_OilWatch rfl dX8_searchFrom_48 ?_
    refine oj_getf hc ff_X8_296 oC_Outing rfl dX8_searchFrom_51 ?_
    refine oj_putf hc fp_X8_198 oC_Outing oC_Outing_s4 rfl rfl (Nat.le_of_ble_eq_true rfl) dX8_searchFrom_54 (fun σ3 => ?_)
    exact hret _ _ _ dX8_searchFrom_57
  · refine oj_iload hc dX8_searchFrom_29 4 rfl ?_
    refine oj_iconst hc 3 dX8_searchFrom_31 kc_3 ?_
    refine oj_icmp_lt hc 58 dX8_searchFrom_32 (by decide) (fun _ => ?_) ?_
    · refine oj_aload_n hc dX8_searchFrom_58 rfl 0 rfl ?_
      refine oj_getf hc ff_X8_44 oC_OilWatch rfl dX8_searchFrom_59 ?_
      refine oj_iload hc dX8_searchFrom_62 4 rfl ?_
      refine oj_aald hc 4 oC_trials rfl dX8_searchFrom_64 (fun hi4 => ?_)
      refine oj_aload_n hc dX8_searchFrom_65 rfl 0 rfl ?_
      refine oj_getf hc ff_X8_44 oC_OilWatch rfl dX8_searchFrom_66 ?_
      refine oj_iload_n hc dX8_searchFrom_69 rfl 1 rfl ?_
      refine oj_aald hc 4 oC_trials rfl dX8_searchFrom_70 (fun hi5 => ?_)
      refine oj_cVv hc cv_X8_187 (by omega) (oC_Slick (oj_lt1 hi4)) [.ref (ad (19 + (1 + a1.toNatClampNeg)))] [] rfl rfl (Nat.le_of_ble_eq_true rfl) dX8_searchFrom_71 (c_X7_become (1 + x1.toNatClampNeg) (oj_lt1 hi4) (1 + a1.toNatClampNeg) (oj_lt1 hi5) σ) (fun σ7 => ?_)
      refine oj_aload_n hc dX8_searchFrom_74 rfl 0 rfl ?_
      refine oj_getf hc ff_X8_33 oC_OilWatch rfl dX8_searchFrom_75 ?_
      refine oj_aload_n hc dX8_searchFrom_78 rfl 0 rfl ?_
      refine oj_getf hc ff_X8_44 oC_OilWatch rfl dX8_searchFrom_79 ?_
      refine oj_iload hc dX8_searchFrom_82 4 rfl ?_
      refine oj_aald hc 4 oC_trials rfl dX8_searchFrom_84 (fun hi8 => ?_)
      refine oj_aload_n hc dX8_searchFrom_85 rfl 0 rfl ?_
      refine oj_getf hc ff_X8_51 oC_OilWatch rfl dX8_searchFrom_86 ?_
      refine oj_getf hc ff_X8_276 oC_Outing rfl dX8_searchFrom_89 ?_
      refine oj_iload_n hc dX8_searchFrom_92 rfl 2 rfl ?_
      refine oj_cVv hc cv_X8_299 (by omega) oC_Fleet [.ref (ad (19 + (1 + x1.toNatClampNeg))), .int (σ7 12 0), .int a2] [] rfl rfl (Nat.le_of_ble_eq_true rfl) dX8_searchFrom_93 (c_X1_take (1 + x1.toNatClampNeg) (oj_lt1 hi8) (σ7 12 0) a2 σ7) (fun σ10 => ?_)
      refine oj_aload_n hc dX8_searchFrom_96 rfl 0 rfl ?_
      refine oj_getf hc ff_X8_33 oC_OilWatch rfl dX8_searchFrom_97 ?_
      refine oj_aload_n hc dX8_searchFrom_100 rfl 0 rfl ?_
      refine oj_getf hc ff_X8_44 oC_OilWatch rfl dX8_searchFrom_101 ?_
      refine oj_iload hc dX8_searchFrom_104 4 rfl ?_
      refine oj_aald hc 4 oC_trials rfl dX8_searchFrom_106 (fun hi11 => ?_)
      refine oj_aload_n hc dX8_searchFrom_107 rfl 0 rfl ?_
      refine oj_getf hc ff_X8_51 oC_OilWatch rfl dX8_searchFrom_108 ?_
      refine oj_getf hc ff_X8_276 oC_Outing rfl dX8_searchFrom_111 ?_
      refine oj_iconst hc 1 dX8_searchFrom_114 kc_1 ?_
      refine oj_iadd hc dX8_searchFrom_115 ?_
      refine oj_aload_n hc dX8_searchFrom_116 rfl 0 rfl ?_
      refine oj_getf hc ff_X8_33 oC_OilWatch rfl dX8_searchFrom_117 ?_
      refine oj_getf hc ff_X8_171 oC_Fleet rfl dX8_searchFrom_120 ?_
      refine oj_cVv hc cv_X8_247 (by omega) oC_Fleet [.ref (ad (19 + (1 + x1.toNatClampNeg))), .int ((σ10 12 0) + 1), .int (σ10 9 1)] [] rfl rfl (Nat.le_of_ble_eq_true rfl) dX8_searchFrom_123 (c_X1_skim (1 + x1.toNatClampNeg) (oj_lt1 hi11) ((σ10 12 0) + 1) (σ10 9 1) σ10) (fun σ13 => ?_)
      refine oj_aload_n hc dX8_searchFrom_126 rfl 0 rfl ?_
      refine oj_iload hc dX8_searchFrom_127 4 rfl ?_
      refine oj_iload_n hc dX8_searchFrom_129 rfl 2 rfl ?_
      refine oj_iload_n hc dX8_searchFrom_130 rfl 3 rfl ?_
      refine oj_cVv hc cv_X8_191 (by omega) oC_OilWatch [.int x1, .int a2, .int a3] [] rfl rfl (Nat.le_of_ble_eq_true rfl) dX8_searchFrom_131 (hself x1 a2 a3 σ13) (fun σ15 => ?_)
      exact hret _ _ _ dX8_searchFrom_134
    · refine oj_aload_n hc dX8_searchFrom_35 rfl 0 rfl ?_
      refine oj_getf hc ff_X8_51 oC_OilWatch rfl dX8_searchFrom_36 ?_
      refine oj_iload_n hc dX8_searchFrom_39 rfl 3 rfl ?_
      refine oj_putf hc fp_X8_195 oC_Outing oC_Outing_s3 rfl rfl (Nat.le_of_ble_eq_true rfl) dX8_searchFrom_40 (fun σ16 => ?_)
      refine oj_aload_n hc dX8_searchFrom_43 rfl 0 rfl ?_
      refine oj_getf hc ff_X8_51 oC_OilWatch rfl dX8_searchFrom_44 ?_
      refine oj_aload_n hc dX8_searchFrom_47 rfl 0 rfl ?_
      refine oj_getf hc ff_X8_51 oC_OilWatch rfl dX8_searchFrom_48 ?_
      refine oj_getf hc ff_X8_296 oC_Outing rfl dX8_searchFrom_51 ?_
      refine oj_putf hc fp_X8_198 oC_Outing oC_Outing_s4 rfl rfl (Nat.le_of_ble_eq_true rfl) dX8_searchFrom_54 (fun σ17 => ?_)
      exact hret _ _ _ dX8_searchFrom_57
def g_X8_searchFrom (rec0 : Int32 → Int32 → Int32 → ojS → Option ojS) (a1 : Int32) (a2 : Int32) (a3 : Int32) (σ : ojS) : Option (ojS) :=
  if a1 = 0 then
    ojLet (ojU σ 12 2 a2) (fun (σ18 : ojS) =>
      f_X8_searchFrom_12 rec0 a1 a2 a3 σ18)
  else
    f_X8_searchFrom_12 rec0 a1 a2 a3 σ
set_option maxRecDepth 100000 in
set_option maxHeartbeats 4000000 in
theorem wk_X8_searchFrom {l : Launch} {D : va_G} {E : ojE} {ad : Nat → Nat} {X : ojX} {Q : ojS → State → Prop} {dd : Nat} (hc : ojC X (vO_ l D E ad) RX8 cX8_searchFrom 5 (12 + 1 + 2 * dd)) (hret : ojRv X (vO_ l D E ad) Q cX8_searchFrom) (rec0 : Int32 → Int32 → Int32 → ojS → Option ojS) (hself : ∀ (x1 x2 x3 : Int32) (s s1 : ojS), rec0 x1 x2 x3 s = some s1 → ojMv (vO_ l D E ad) yX8_searchHour cX8_searchHour 10 none (12 + 2 * dd) [.ref (ad 0), .int x1, .int x2, .int x3] s s1) (a1 : Int32) (a2 : Int32) (a3 : Int32) (σ : ojS) : ojJ X (vO_ l D E ad) Q (g_X8_searchFrom rec0 a1 a2 a3 σ) σ 0 [(0, .ref (ad 0)), (1, .int a1), (2, .int a2), (3, .int a3)] [] := by
  unfold g_X8_searchFrom
  refine oj_iload_n hc dX8_searchFrom_0 rfl 1 rfl ?_
  refine oj_if_ne hc 12 dX8_searchFrom_1 (by decide) ?_ (fun _ => ?_)
  · exact wk_X8_searchFrom_12 hc hret rec0 hself a1 a2 a3 σ
  · refine oj_aload_n hc dX8_searchFrom_4 rfl 0 rfl ?_
    refine oj_getf hc ff_X8_51 oC_OilWatch rfl dX8_searchFrom_5 ?_
    refine oj_iload_n hc dX8_searchFrom_8 rfl 2 rfl ?_
    refine oj_putf hc fp_X8_296 oC_Outing oC_Outing_s2 rfl rfl (Nat.le_of_ble_eq_true rfl) dX8_searchFrom_9 (fun σ18 => ?_)
    exact wk_X8_searchFrom_12 hc hret rec0 hself a1 a2 a3 σ18
abbrev f_X8_searchFrom := @g_X8_searchFrom
set_option maxRecDepth 100000 in
theorem c_X8_searchFrom {l : Launch} {D : va_G} {E : ojE} {ad : Nat → Nat} {dd : Nat} (rec0 : Int32 → Int32 → Int32 → ojS → Option ojS) (hself : ∀ (x1 x2 x3 : Int32) (s s1 : ojS), rec0 x1 x2 x3 s = some s1 → ojMv (vO_ l D E ad) yX8_searchHour cX8_searchHour 10 none (12 + 2 * dd) [.ref (ad 0), .int x1, .int x2, .int x3] s s1) (a1 : Int32) (a2 : Int32) (a3 : Int32) (σ : ojS) : ∀ (σ1 : ojS), g_X8_searchFrom rec0 a1 a2 a3 σ = some σ1 → ojMv (vO_ l D E ad) yX8_searchFrom cX8_searchFrom 5 none (12 + 1 + 2 * dd) [.ref (ad 0), .int a1, .int a2, .int a3] σ σ1 :=
  ojMv_W (by decide +kernel) rfl rfl (Nat.le_of_ble_eq_true rfl) rfl (fun X Q hc hret => wk_X8_searchFrom hc hret rec0 hself a1 a2 a3 σ)

def f_X8_searchHour_114 (rec0 : Int32 → Int32 → Int32 → ojS → Option ojS) (a1 : Int32) (a2 : Int32) (a3 : Int32) (n4 : Nat) (n5 : Nat) (a6 : Int32) (a7 : Int32) (a8 : Int32) (σ : ojS) : Option (ojS) :=
  ojFix (fun _ _ => none) 600 (fun (rec_114 : Int32 → ojS → Option (ojS)) (v8_114 : Int32) (σ_114 : ojS) =>
    if 96 ≤ v8_114 then
      some σ_114
    else
      ojB1 (f_X8_isWayOverSea 8 a2 v8_114 (σ_114 (15 + n5) 3) σ_114) (fun (r11 : Int32) =>
        if r11 = 0 then
          ojLet (v8_114 + 1) (fun (x17 : Int32) =>
            rec_114 x17 σ_114)
        else
          ojB1 (f_X1_canTake n4 (σ_114 12 0) v8_114 σ_114) (fun (r12 : Int32) =>
            if (a3 + (ojMin (r12 + a6) a7)) ≤ (σ_114 12 3) then
              ojLet (v8_114 + 1) (fun (x13 : Int32) =>
                rec_114 x13 σ_114)
            else
              ojBv (f_X8_searchFrom rec0 a1 v8_114 (a3 + r12) σ_114) (fun (σ15 : ojS) =>
                ojLet (v8_114 + 1) (fun (x16 : Int32) =>
                  rec_114 x16 σ15))))) a8 σ
set_option maxRecDepth 100000 in
set_option maxHeartbeats 4000000 in
theorem wk_X8_searchHour_114 {l : Launch} {D : va_G} {E : ojE} {ad : Nat → Nat} {X : ojX} {Q : ojS → State → Prop} {dd : Nat} (hc : ojC X (vO_ l D E ad) RX8 cX8_searchHour 10 (12 + 2 * (dd + 1))) (hret : ojRv X (vO_ l D E ad) Q cX8_searchHour) (rec0 : Int32 → Int32 → Int32 → ojS → Option ojS) (hself : ∀ (x1 x2 x3 : Int32) (s s1 : ojS), rec0 x1 x2 x3 s = some s1 → ojMv (vO_ l D E ad) yX8_searchHour cX8_searchHour 10 none (12 + 2 * dd) [.ref (ad 0), .int x1, .int x2, .int x3] s s1) (a1 : Int32) (a2 : Int32) (a3 : Int32) (n4 : Nat) (h4 : n4 < 4) (n5 : Nat) (h5 : n5 < 4) (a6 : Int32) (a7 : Int32) (a8 : Int32) (σ : ojS) : ojJ X (vO_ l D E ad) Q (f_X8_searchHour_114 rec0 a1 a2 a3 n4 n5 a6 a7 a8 σ) σ 114 [(0, .ref (ad 0)), (1, .int a1), (2, .int a2), (3, .int a3), (4, .ref (ad (19 + n4))), (5, .ref (ad (15 + n5))), (6, .int a6), (7, .int a7), (8, .int a8)] [] := by
  unfold f_X8_searchHour_114
  refine oj_fix (fun (r : Int32 → ojS → Option (ojS)) => ∀ (v8_114 : Int32) (σ_114 : ojS), ojJ X (vO_ l D E ad) Q (r v8_114 σ_114) σ_114 114 [(0, .ref (ad 0)), (1, .int a1), (2, .int a2), (3, .int a3), (4, .ref (ad (19 + n4))), (5, .ref (ad (15 + n5))), (6, .int a6), (7, .int a7), (8, .int v8_114)] []) _ (fun _ _ => oj_none) (fun rec_114 hrec_114 v8_114 σ_114 => ?_) 600 a8 σ
  refine oj_iload hc dX8_searchHour_114 8 rfl ?_
  refine oj_bipush hc 96 dX8_searchHour_116 kb_96 ?_
  refine oj_icmp_ge hc 201 dX8_searchHour_118 (by decide) (fun _ => ?_) ?_
  · exact hret _ _ _ dX8_searchHour_201
  · refine oj_aload_n hc dX8_searchHour_121 rfl 0 rfl ?_
    refine oj_getf hc ff_X8_12 oC_OilWatch rfl dX8_searchHour_122 ?_
    refine oj_iload_n hc dX8_searchHour_125 rfl 2 rfl ?_
    refine oj_iload hc dX8_searchHour_126 8 rfl ?_
    refine oj_aload hc dX8_searchHour_128 5 rfl ?_
    refine oj_getf hc ff_X8_139 (oC_Skimmer h5) rfl dX8_searchHour_130 ?_
    refine oj_cS1 hc cs_X8_142 (by omega) [.ref (ad 1), .int a2, .int v8_114, .int (σ_114 (15 + n5) 3)] [] rfl rfl (Nat.le_of_ble_eq_true rfl) dX8_searchHour_133 (c_X8_isWayOverSea 8 a2 v8_114 (σ_114 (15 + n5) 3) σ_114) (fun r11 => ?_)
    refine oj_if_ne hc 142 dX8_searchHour_136 (by decide) ?_ (fun _ => ?_)
    · refine oj_aload_n hc dX8_searchHour_142 rfl 0 rfl ?_
      refine oj_getf hc ff_X8_33 oC_OilWatch rfl dX8_searchHour_143 ?_
      refine oj_aload hc dX8_searchHour_146 4 rfl ?_
      refine oj_aload_n hc dX8_searchHour_148 rfl 0 rfl ?_
      refine oj_getf hc ff_X8_51 oC_OilWatch rfl dX8_searchHour_149 ?_
      refine oj_getf hc ff_X8_276 oC_Outing rfl dX8_searchHour_152 ?_
      refine oj_iload hc dX8_searchHour_155 8 rfl ?_
      refine oj_cV1 hc cv_X8_289 (by omega) oC_Fleet [.ref (ad (19 + n4)), .int (σ_114 12 0), .int v8_114] [] rfl rfl (Nat.le_of_ble_eq_true rfl) dX8_searchHour_157 (c_X1_canTake n4 h4 (σ_114 12 0) v8_114 σ_114) (fun r12 => ?_)
      refine oj_istore hc [(0, .ref (ad 0)), (1, .int a1), (2, .int a2), (3, .int a3), (4, .ref (ad (19 + n4))), (5, .ref (ad (15 + n5))), (6, .int a6), (7, .int a7), (8, .int v8_114), (9, .int r12)] rfl (by decide) dX8_searchHour_160 ?_
      refine oj_iload_n hc dX8_searchHour_162 rfl 3 rfl ?_
      refine oj_iload hc dX8_searchHour_163 9 rfl ?_
      refine oj_iload hc dX8_searchHour_165 6 rfl ?_
      refine oj_iadd hc dX8_searchHour_167 ?_
      refine oj_iload hc dX8_searchHour_168 7 rfl ?_
      refine oj_mmin hc (by omega) mm_X8_152 mm_smin mm_ini mm_cmin (Nat.le_of_ble_eq_true rfl) dX8_searchHour_170 ?_
      refine oj_iadd hc dX8_searchHour_173 ?_
      refine oj_aload_n hc dX8_searchHour_174 rfl 0 rfl ?_
      refine oj_getf hc ff_X8_51 oC_OilWatch rfl dX8_searchHour_175 ?_
      refine oj_getf hc ff_X8_195 oC_Outing rfl dX8_searchHour_178 ?_
      refine oj_icmp_le hc 195 dX8_searchHour_181 (by decide) (fun _ => ?_) ?_
      · refine oj_iinc hc 1 (fun u => [(0, .ref (ad 0)), (1, .int a1), (2, .int a2), (3, .int a3), (4, .ref (ad (19 + n4))), (5, .ref (ad (15 + n5))), (6, .int a6), (7, .int a7), (8, .int u), (9, .int r12)]) 8 rfl kc_1 (fun _ => rfl) (by decide) dX8_searchHour_195 (fun x13 => ?_)
        refine oj_goto hc 114 dX8_searchHour_198 (by decide) ?_
        refine oj_sub [0, 1, 2, 3, 4, 5, 6, 7, 8] rfl ?_
        exact hrec_114 x13 σ_114
      · refine oj_aload_n hc dX8_searchHour_184 rfl 0 rfl ?_
        refine oj_iload_n hc dX8_searchHour_185 rfl 1 rfl ?_
        refine oj_iload hc dX8_searchHour_186 8 rfl ?_
        refine oj_iload_n hc dX8_searchHour_188 rfl 3 rfl ?_
        refine oj_iload hc dX8_searchHour_189 9 rfl ?_
        refine oj_iadd hc dX8_searchHour_191 ?_
        refine oj_cVv hc cv_X8_293 (by omega) oC_OilWatch [.int a1, .int v8_114, .int (a3 + r12)] [] rfl rfl (Nat.le_of_ble_eq_true rfl) dX8_searchHour_192 (c_X8_searchFrom rec0 hself a1 v8_114 (a3 + r12) σ_114) (fun σ15 => ?_)
        refine oj_iinc hc 1 (fun u => [(0, .ref (ad 0)), (1, .int a1), (2, .int a2), (3, .int a3), (4, .ref (ad (19 + n4))), (5, .ref (ad (15 + n5))), (6, .int a6), (7, .int a7), (8, .int u), (9, .int r12)]) 8 rfl kc_1 (fun _ => rfl) (by decide) dX8_searchHour_195 (fun x16 => ?_)
        refine oj_goto hc 114 dX8_searchHour_198 (by decide) ?_
        refine oj_sub [0, 1, 2, 3, 4, 5, 6, 7, 8] rfl ?_
        exact hrec_114 x16 σ15
    · refine oj_goto hc 195 dX8_searchHour_139 (by decide) ?_
      refine oj_iinc hc 1 (fun u => [(0, .ref (ad 0)), (1, .int a1), (2, .int a2), (3, .int a3), (4, .ref (ad (19 + n4))), (5, .ref (ad (15 + n5))), (6, .int a6), (7, .int a7), (8, .int u)]) 8 rfl kc_1 (fun _ => rfl) (by decide) dX8_searchHour_195 (fun x17 => ?_)
      refine oj_goto hc 114 dX8_searchHour_198 (by decide) ?_
      exact hrec_114 x17 σ_114
def g_X8_searchHour (rec0 : Int32 → Int32 → Int32 → ojS → Option ojS) (a1 : Int32) (a2 : Int32) (a3 : Int32) (σ : ojS) : Option (ojS) :=
  if a1 < 0 then
    some σ
  else
    if a1 < 3 then
      ojChk a1 3 (
        ojBv (f_X8_driftAndLose (1 + a1.toNatClampNeg) 0 ((σ 0 10) + a1) σ) (fun (σ3 : ojS) =>
          ojBv (f_X1_skim (1 + a1.toNatClampNeg) 0 (σ3 12 0) σ3) (fun (σ5 : ojS) =>
            ojChk (σ5 12 0) 4 (
              ojLet ((σ5 (15 + (σ5 12 0).toNatClampNeg) 1) * (((σ5 12 1) - a1) - 1)) (fun (x7 : Int32) =>
                ojB1 (f_X8_litersAfloat (1 + a1.toNatClampNeg) σ5) (fun (r8 : Int32) =>
                  ojB1 (f_X1_roomLeft (1 + a1.toNatClampNeg) (σ5 12 0) σ5) (fun (r9 : Int32) =>
                    ojLet (ojMin r8 r9) (fun (x10 : Int32) =>
                      f_X8_searchHour_114 rec0 a1 a2 a3 (1 + a1.toNatClampNeg) ((σ5 12 0).toNatClampNeg) x7 x10 0 σ5))))))))
    else
      some σ
set_option maxRecDepth 100000 in
set_option maxHeartbeats 4000000 in
theorem wk_X8_searchHour {l : Launch} {D : va_G} {E : ojE} {ad : Nat → Nat} {X : ojX} {Q : ojS → State → Prop} {dd : Nat} (hc : ojC X (vO_ l D E ad) RX8 cX8_searchHour 10 (12 + 2 * (dd + 1))) (hret : ojRv X (vO_ l D E ad) Q cX8_searchHour) (rec0 : Int32 → Int32 → Int32 → ojS → Option ojS) (hself : ∀ (x1 x2 x3 : Int32) (s s1 : ojS), rec0 x1 x2 x3 s = some s1 → ojMv (vO_ l D E ad) yX8_searchHour cX8_searchHour 10 none (12 + 2 * dd) [.ref (ad 0), .int x1, .int x2, .int x3] s s1) (a1 : Int32) (a2 : Int32) (a3 : Int32) (σ : ojS) : ojJ X (vO_ l D E ad) Q (g_X8_searchHour rec0 a1 a2 a3 σ) σ 0 [(0, .ref (ad 0)), (1, .int a1), (2, .int a2), (3, .int a3)] [] := by
  unfold g_X8_searchHour
  refine oj_iload_n hc dX8_searchHour_0 rfl 1 rfl ?_
  refine oj_if_lt hc 9 dX8_searchHour_1 (by decide) (fun _ => ?_) ?_
  · exact hret _ _ _ dX8_searchHour_9
  · refine oj_iload_n hc dX8_searchHour_4 rfl 1 rfl ?_
    refine oj_iconst hc 3 dX8_searchHour_5 kc_3 ?_
    refine oj_icmp_lt hc 10 dX8_searchHour_6 (by decide) (fun _ => ?_) ?_
    · refine oj_aload_n hc dX8_searchHour_10 rfl 0 rfl ?_
      refine oj_getf hc ff_X8_44 oC_OilWatch rfl dX8_searchHour_11 ?_
      refine oj_iload_n hc dX8_searchHour_14 rfl 1 rfl ?_
      refine oj_aald hc 4 oC_trials rfl dX8_searchHour_15 (fun hi1 => ?_)
      refine oj_astore hc [(0, .ref (ad 0)), (1, .int a1), (2, .int a2), (3, .int a3), (4, .ref (ad (19 + (1 + a1.toNatClampNeg))))] rfl (by decide) dX8_searchHour_16 ?_
      refine oj_aload_n hc dX8_searchHour_18 rfl 0 rfl ?_
      refine oj_aload hc dX8_searchHour_19 4 rfl ?_
      refine oj_iconst hc 0 dX8_searchHour_21 kc_0 ?_
      refine oj_aload_n hc dX8_searchHour_22 rfl 0 rfl ?_
      refine oj_getf hc ff_X8_74 oC_OilWatch rfl dX8_searchHour_23 ?_
      refine oj_iload_n hc dX8_searchHour_26 rfl 1 rfl ?_
      refine oj_iadd hc dX8_searchHour_27 ?_
      refine oj_cVv hc cv_X8_244 (by omega) oC_OilWatch [.ref (ad (19 + (1 + a1.toNatClampNeg))), .int 0, .int ((σ 0 10) + a1)] [] rfl rfl (Nat.le_of_ble_eq_true rfl) dX8_searchHour_28 (c_X8_driftAndLose (1 + a1.toNatClampNeg) (oj_lt1 hi1) 0 ((σ 0 10) + a1) σ) (fun σ3 => ?_)
      refine oj_aload_n hc dX8_searchHour_31 rfl 0 rfl ?_
      refine oj_getf hc ff_X8_33 oC_OilWatch rfl dX8_searchHour_32 ?_
      refine oj_aload hc dX8_searchHour_35 4 rfl ?_
      refine oj_iconst hc 0 dX8_searchHour_37 kc_0 ?_
      refine oj_aload_n hc dX8_searchHour_38 rfl 0 rfl ?_
      refine oj_getf hc ff_X8_51 oC_OilWatch rfl dX8_searchHour_39 ?_
      refine oj_getf hc ff_X8_276 oC_Outing rfl dX8_searchHour_42 ?_
      refine oj_cVv hc cv_X8_247 (by omega) oC_Fleet [.ref (ad (19 + (1 + a1.toNatClampNeg))), .int 0, .int (σ3 12 0)] [] rfl rfl (Nat.le_of_ble_eq_true rfl) dX8_searchHour_45 (c_X1_skim (1 + a1.toNatClampNeg) (oj_lt1 hi1) 0 (σ3 12 0) σ3) (fun σ5 => ?_)
      refine oj_aload_n hc dX8_searchHour_48 rfl 0 rfl ?_
      refine oj_getf hc ff_X8_33 oC_OilWatch rfl dX8_searchHour_49 ?_
      refine oj_getf hc ff_X8_126 oC_Fleet rfl dX8_searchHour_52 ?_
      refine oj_aload_n hc dX8_searchHour_55 rfl 0 rfl ?_
      refine oj_getf hc ff_X8_51 oC_OilWatch rfl dX8_searchHour_56 ?_
      refine oj_getf hc ff_X8_276 oC_Outing rfl dX8_searchHour_59 ?_
      refine oj_aald hc 3 oC_skimmers rfl dX8_searchHour_62 (fun hi6 => ?_)
      refine oj_astore hc [(0, .ref (ad 0)), (1, .int a1), (2, .int a2), (3, .int a3), (4, .ref (ad (19 + (1 + a1.toNatClampNeg)))), (5, .ref (ad (15 + (σ5 12 0).toNatClampNeg)))] rfl (by decide) dX8_searchHour_63 ?_
      refine oj_aload hc dX8_searchHour_65 5 rfl ?_
      refine oj_getf hc ff_X8_279 (oC_Skimmer hi6) rfl dX8_searchHour_67 ?_
      refine oj_aload_n hc dX8_searchHour_70 rfl 0 rfl ?_
      refine oj_getf hc ff_X8_51 oC_OilWatch rfl dX8_searchHour_71 ?_
      refine oj_getf hc ff_X8_282 oC_Outing rfl dX8_searchHour_74 ?_
      refine oj_iload_n hc dX8_searchHour_77 rfl 1 rfl ?_
      refine oj_isub hc dX8_searchHour_78 ?_
      refine oj_iconst hc 1 dX8_searchHour_79 kc_1 ?_
      refine oj_isub hc dX8_searchHour_80 ?_
      refine oj_imul hc dX8_searchHour_81 ?_
      refine oj_nm (fun x7 => ?_)
      refine oj_istore hc [(0, .ref (ad 0)), (1, .int a1), (2, .int a2), (3, .int a3), (4, .ref (ad (19 + (1 + a1.toNatClampNeg)))), (5, .ref (ad (15 + (σ5 12 0).toNatClampNeg))), (6, .int x7)] rfl (by decide) dX8_searchHour_82 ?_
      refine oj_aload_n hc dX8_searchHour_84 rfl 0 rfl ?_
      refine oj_aload hc dX8_searchHour_85 4 rfl ?_
      refine oj_cV1 hc cv_X8_224 (by omega) oC_OilWatch [.ref (ad (19 + (1 + a1.toNatClampNeg)))] [] rfl rfl (Nat.le_of_ble_eq_true rfl) dX8_searchHour_87 (c_X8_litersAfloat (1 + a1.toNatClampNeg) (oj_lt1 hi1) σ5) (fun r8 => ?_)
      refine oj_aload_n hc dX8_searchHour_90 rfl 0 rfl ?_
      refine oj_getf hc ff_X8_33 oC_OilWatch rfl dX8_searchHour_91 ?_
      refine oj_aload hc dX8_searchHour_94 4 rfl ?_
      refine oj_aload_n hc dX8_searchHour_96 rfl 0 rfl ?_
      refine oj_getf hc ff_X8_51 oC_OilWatch rfl dX8_searchHour_97 ?_
      refine oj_getf hc ff_X8_276 oC_Outing rfl dX8_searchHour_100 ?_
      refine oj_cV1 hc cv_X8_285 (by omega) oC_Fleet [.ref (ad (19 + (1 + a1.toNatClampNeg))), .int (σ5 12 0)] [.int r8] rfl rfl (Nat.le_of_ble_eq_true rfl) dX8_searchHour_103 (c_X1_roomLeft (1 + a1.toNatClampNeg) (oj_lt1 hi1) (σ5 12 0) σ5) (fun r9 => ?_)
      refine oj_mmin hc (by omega) mm_X8_152 mm_smin mm_ini mm_cmin (Nat.le_of_ble_eq_true rfl) dX8_searchHour_106 ?_
      refine oj_nm (fun x10 => ?_)
      refine oj_istore hc [(0, .ref (ad 0)), (1, .int a1), (2, .int a2), (3, .int a3), (4, .ref (ad (19 + (1 + a1.toNatClampNeg)))), (5, .ref (ad (15 + (σ5 12 0).toNatClampNeg))), (6, .int x7), (7, .int x10)] rfl (by decide) dX8_searchHour_109 ?_
      refine oj_iconst hc 0 dX8_searchHour_111 kc_0 ?_
      refine oj_istore hc [(0, .ref (ad 0)), (1, .int a1), (2, .int a2), (3, .int a3), (4, .ref (ad (19 + (1 + a1.toNatClampNeg)))), (5, .ref (ad (15 + (σ5 12 0).toNatClampNeg))), (6, .int x7), (7, .int x10), (8, .int 0)] rfl (by decide) dX8_searchHour_112 ?_
      exact wk_X8_searchHour_114 hc hret rec0 hself a1 a2 a3 (1 + a1.toNatClampNeg) (oj_lt1 hi1) ((σ5 12 0).toNatClampNeg) hi6 x7 x10 0 σ5
    · exact hret _ _ _ dX8_searchHour_9
def f_X8_searchHour (d : Nat) : Int32 → Int32 → Int32 → ojS → Option ojS := ojFix (fun _ _ _ _ => none) d g_X8_searchHour
set_option maxRecDepth 100000 in
theorem c_X8_searchHour {l : Launch} {D : va_G} {E : ojE} {ad : Nat → Nat} : ∀ (dd : Nat) (a1 a2 a3 : Int32) (σ : ojS) (σ1 : ojS), f_X8_searchHour dd a1 a2 a3 σ = some σ1 → ojMv (vO_ l D E ad) yX8_searchHour cX8_searchHour 10 none (12 + 2 * dd) [.ref (ad 0), .int a1, .int a2, .int a3] σ σ1
  | 0, _, _, _, _, _, h => by cases h
  | dd + 1, a1, a2, a3, σ, σ1, h => (show ojMv (vO_ l D E ad) yX8_searchHour cX8_searchHour 10 none (12 + 2 * (dd + 1)) [.ref (ad 0), .int a1, .int a2, .int a3] σ σ1 from (ojMv_W (by decide +kernel) rfl rfl (Nat.le_of_ble_eq_true rfl) rfl (fun X Q hc hret => wk_X8_searchHour hc hret (f_X8_searchHour dd) (c_X8_searchHour dd) a1 a2 a3 σ)) σ1 h)
