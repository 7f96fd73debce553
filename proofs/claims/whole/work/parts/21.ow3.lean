def f_X8_best (a1 : Int32) (a2 : Int32) (a3 : Int32) (σ : ojS) : Option (Int32 × ojS) :=
  ojB1 (f_X1_has a1 σ) (fun (r1 : Int32) =>
    if r1 = 0 then
      some ((-1), σ)
    else
      ojB1 (f_X8_isWithin a2 1 3) (fun (r2 : Int32) =>
        if r2 = 0 then
          some ((-1), σ)
        else
          ojB1 (f_X8_isWithin a3 0 1) (fun (r3 : Int32) =>
            if r3 = 0 then
              some ((-1), σ)
            else
              ojChk a1 4 (
                if (σ (15 + a1.toNatClampNeg) 5) = 0 then
                  ojBv (f_X3_begin a1 a2 σ) (fun (σ6 : ojS) =>
                    ojChk 0 3 (
                      ojBv (f_X7_become (1 + (0 : Int32).toNatClampNeg) 0 σ6) (fun (σ9 : ojS) =>
                        ojChk a1 4 (
                          ojBv (f_X8_searchHour 4 0 (σ9 (15 + a1.toNatClampNeg) 0) 0 σ9) (fun (σ12 : ojS) =>
                            if a3 = 0 then
                              some (σ12 12 3, σ12)
                            else
                              some (σ12 12 4, σ12))))))
                else
                  some ((-1), σ)))))
set_option maxRecDepth 100000 in
set_option maxHeartbeats 4000000 in
theorem wk_X8_best {l : Launch} {D : va_G} {E : ojE} {ad : Nat → Nat} {X : ojX} {Q : Int32 × ojS → State → Prop} (hc : ojC X (vO_ l D E ad) RX8 cX8_best 4 21) (hret : ojRi X (vO_ l D E ad) Q cX8_best .int) (a1 : Int32) (a2 : Int32) (a3 : Int32) (σ : ojS) : ojJ X (vO_ l D E ad) Q (f_X8_best a1 a2 a3 σ) σ 0 [(0, .ref (ad 0)), (1, .int a1), (2, .int a2), (3, .int a3)] [] := by
  unfold f_X8_best
  refine oj_aload_n hc dX8_best_0 rfl 0 rfl ?_
  refine oj_getf hc ff_X8_33 oC_OilWatch rfl dX8_best_1 ?_
  refine oj_iload_n hc dX8_best_4 rfl 1 rfl ?_
  refine oj_cV1 hc cv_X8_123 (by omega) oC_Fleet [.int a1] [] rfl rfl (Nat.le_of_ble_eq_true rfl) dX8_best_5 (c_X1_has a1 σ) (fun r1 => ?_)
  refine oj_if_eq hc 29 dX8_best_8 (by decide) (fun _ => ?_) ?_
  · refine oj_iconst hc (-1) dX8_best_29 kc_m1 ?_
    exact hret _ _ _ _ rfl dX8_best_30
  · refine oj_iload_n hc dX8_best_11 rfl 2 rfl ?_
    refine oj_iconst hc 1 dX8_best_12 kc_1 ?_
    refine oj_iconst hc 3 dX8_best_13 kc_3 ?_
    refine oj_cS1 hc cs_X8_70 (by omega) [.int a2, .int 1, .int 3] [] rfl rfl (Nat.le_of_ble_eq_true rfl) dX8_best_14 (c_X8_isWithin a2 1 3 σ) (fun r2 => ?_)
    refine oj_if_eq hc 29 dX8_best_17 (by decide) (fun _ => ?_) ?_
    · refine oj_iconst hc (-1) dX8_best_29 kc_m1 ?_
      exact hret _ _ _ _ rfl dX8_best_30
    · refine oj_iload_n hc dX8_best_20 rfl 3 rfl ?_
      refine oj_iconst hc 0 dX8_best_21 kc_0 ?_
      refine oj_iconst hc 1 dX8_best_22 kc_1 ?_
      refine oj_cS1 hc cs_X8_70 (by omega) [.int a3, .int 0, .int 1] [] rfl rfl (Nat.le_of_ble_eq_true rfl) dX8_best_23 (c_X8_isWithin a3 0 1 σ) (fun r3 => ?_)
      refine oj_if_ne hc 31 dX8_best_26 (by decide) ?_ (fun _ => ?_)
      · refine oj_aload_n hc dX8_best_31 rfl 0 rfl ?_
        refine oj_getf hc ff_X8_33 oC_OilWatch rfl dX8_best_32 ?_
        refine oj_getf hc ff_X8_126 oC_Fleet rfl dX8_best_35 ?_
        refine oj_iload_n hc dX8_best_38 rfl 1 rfl ?_
        refine oj_aald hc 3 oC_skimmers rfl dX8_best_39 (fun hi4 => ?_)
        refine oj_getf hc ff_X8_130 (oC_Skimmer hi4) rfl dX8_best_40 ?_
        refine oj_if_eq hc 48 dX8_best_43 (by decide) (fun _ => ?_) ?_
        · refine oj_aload_n hc dX8_best_48 rfl 0 rfl ?_
          refine oj_getf hc ff_X8_51 oC_OilWatch rfl dX8_best_49 ?_
          refine oj_iload_n hc dX8_best_52 rfl 1 rfl ?_
          refine oj_iload_n hc dX8_best_53 rfl 2 rfl ?_
          refine oj_cVv hc cv_X8_183 (by omega) oC_Outing [.int a1, .int a2] [] rfl rfl (Nat.le_of_ble_eq_true rfl) dX8_best_54 (c_X3_begin a1 a2 σ) (fun σ6 => ?_)
          refine oj_aload_n hc dX8_best_57 rfl 0 rfl ?_
          refine oj_getf hc ff_X8_44 oC_OilWatch rfl dX8_best_58 ?_
          refine oj_iconst hc 0 dX8_best_61 kc_0 ?_
          refine oj_aald hc 4 oC_trials rfl dX8_best_62 (fun hi7 => ?_)
          refine oj_aload_n hc dX8_best_63 rfl 0 rfl ?_
          refine oj_getf hc ff_X8_40 oC_OilWatch rfl dX8_best_64 ?_
          refine oj_cVv hc cv_X8_187 (by omega) (oC_Slick (oj_lt1 hi7)) [.ref (ad (19 + 0))] [] rfl rfl (Nat.le_of_ble_eq_true rfl) dX8_best_67 (c_X7_become (1 + (0 : Int32).toNatClampNeg) (oj_lt1 hi7) 0 oj_04 σ6) (fun σ9 => ?_)
          refine oj_aload_n hc dX8_best_70 rfl 0 rfl ?_
          refine oj_iconst hc 0 dX8_best_71 kc_0 ?_
          refine oj_aload_n hc dX8_best_72 rfl 0 rfl ?_
          refine oj_getf hc ff_X8_33 oC_OilWatch rfl dX8_best_73 ?_
          refine oj_getf hc ff_X8_126 oC_Fleet rfl dX8_best_76 ?_
          refine oj_iload_n hc dX8_best_79 rfl 1 rfl ?_
          refine oj_aald hc 3 oC_skimmers rfl dX8_best_80 (fun hi10 => ?_)
          refine oj_getf hc ff_X8_136 (oC_Skimmer hi10) rfl dX8_best_81 ?_
          refine oj_iconst hc 0 dX8_best_84 kc_0 ?_
          refine oj_cVv hc cv_X8_191 (by omega) oC_OilWatch [.int 0, .int (σ9 (15 + a1.toNatClampNeg) 0), .int 0] [] rfl rfl (Nat.le_of_ble_eq_true rfl) dX8_best_85 (c_X8_searchHour 4 0 (σ9 (15 + a1.toNatClampNeg) 0) 0 σ9) (fun σ12 => ?_)
          refine oj_iload_n hc dX8_best_88 rfl 3 rfl ?_
          refine oj_if_ne hc 102 dX8_best_89 (by decide) ?_ (fun _ => ?_)
          · refine oj_aload_n hc dX8_best_102 rfl 0 rfl ?_
            refine oj_getf hc ff_X8_51 oC_OilWatch rfl dX8_best_103 ?_
            refine oj_getf hc ff_X8_198 oC_Outing rfl dX8_best_106 ?_
            exact hret _ _ _ _ rfl dX8_best_109
          · refine oj_aload_n hc dX8_best_92 rfl 0 rfl ?_
            refine oj_getf hc ff_X8_51 oC_OilWatch rfl dX8_best_93 ?_
            refine oj_getf hc ff_X8_195 oC_Outing rfl dX8_best_96 ?_
            refine oj_goto hc 109 dX8_best_99 (by decide) ?_
            exact hret _ _ _ _ rfl dX8_best_109
        · refine oj_iconst hc (-1) dX8_best_46 kc_m1 ?_
          exact hret _ _ _ _ rfl dX8_best_47
      · refine oj_iconst hc (-1) dX8_best_29 kc_m1 ?_
        exact hret _ _ _ _ rfl dX8_best_30
set_option maxRecDepth 100000 in
theorem c_X8_best {l : Launch} {D : va_G} {E : ojE} {ad : Nat → Nat} (a1 : Int32) (a2 : Int32) (a3 : Int32) (σ : ojS) : ∀ (r : Int32) (σ1 : ojS), f_X8_best a1 a2 a3 σ = some (r, σ1) → ojMi (vO_ l D E ad) yX8_best cX8_best 4 (some .int) 21 [.ref (ad 0), .int a1, .int a2, .int a3] σ r σ1 :=
  ojMi_W (by decide +kernel) rfl .int rfl (Nat.le_of_ble_eq_true rfl) rfl (fun X Q hc hret => wk_X8_best hc hret a1 a2 a3 σ)

def f_X8_ship_78 (n4 : Nat) (a5 : Int32) (σ : ojS) : Option (Int32 × ojS) :=
  ojFix (fun _ _ => none) 600 (fun (rec_78 : Int32 → ojS → Option (Int32 × ojS)) (v5_78 : Int32) (σ_78 : ojS) =>
    if (σ_78 0 10) ≤ v5_78 then
      ojLet (ojU σ_78 0 9 ((σ_78 0 9) + 1)) (fun (σ8 : ojS) =>
        some ((σ8 0 9) - 1, σ8))
    else
      ojBv (f_X8_spreadPossible n4 v5_78 σ_78) (fun (σ10 : ojS) =>
        ojLet (v5_78 + 1) (fun (x11 : Int32) =>
          rec_78 x11 σ10))) a5 σ
set_option maxRecDepth 100000 in
set_option maxHeartbeats 4000000 in
theorem wk_X8_ship_78 {l : Launch} {D : va_G} {E : ojE} {ad : Nat → Nat} {X : ojX} {Q : Int32 × ojS → State → Prop} (hc : ojC X (vO_ l D E ad) RX8 cX8_ship 6 4) (hret : ojRi X (vO_ l D E ad) Q cX8_ship .int) (n4 : Nat) (h4 : n4 < 8) (a5 : Int32) (σ : ojS) : ojJ X (vO_ l D E ad) Q (f_X8_ship_78 n4 a5 σ) σ 78 [(0, .ref (ad 0)), (4, .ref (ad (31 + n4))), (5, .int a5)] [] := by
  unfold f_X8_ship_78
  refine oj_fix (fun (r : Int32 → ojS → Option (Int32 × ojS)) => ∀ (v5_78 : Int32) (σ_78 : ojS), ojJ X (vO_ l D E ad) Q (r v5_78 σ_78) σ_78 78 [(0, .ref (ad 0)), (4, .ref (ad (31 + n4))), (5, .int v5_78)] []) _ (fun _ _ => oj_none) (fun rec_78 hrec_78 v5_78 σ_78 => ?_) 600 a5 σ
  refine oj_iload hc dX8_ship_78 2 rfl ?_
  refine oj_aload_n hc dX8_ship_80 rfl 0 rfl ?_
  refine oj_getf hc ff_X8_74 oC_OilWatch rfl dX8_ship_81 ?_
  refine oj_icmp_ge hc 101 dX8_ship_84 (by decide) (fun _ => ?_) ?_
  · refine oj_aload_n hc dX8_ship_101 rfl 0 rfl ?_
    refine oj_dup hc dX8_ship_102 rfl ?_
    refine oj_getf hc ff_X8_161 oC_OilWatch rfl dX8_ship_103 ?_
    refine oj_iconst hc 1 dX8_ship_106 kc_1 ?_
    refine oj_iadd hc dX8_ship_107 ?_
    refine oj_putf hc fp_X8_161 oC_OilWatch oC_OilWatch_s9 rfl rfl (Nat.le_of_ble_eq_true rfl) dX8_ship_108 (fun σ8 => ?_)
    refine oj_aload_n hc dX8_ship_111 rfl 0 rfl ?_
    refine oj_getf hc ff_X8_161 oC_OilWatch rfl dX8_ship_112 ?_
    refine oj_iconst hc 1 dX8_ship_115 kc_1 ?_
    refine oj_isub hc dX8_ship_116 ?_
    exact hret _ _ _ _ rfl dX8_ship_117
  · refine oj_aload_n hc dX8_ship_87 rfl 0 rfl ?_
    refine oj_aload hc dX8_ship_88 1 rfl ?_
    refine oj_iload hc dX8_ship_90 2 rfl ?_
    refine oj_cVv hc cv_X8_164 (by omega) oC_OilWatch [.ref (ad (31 + n4)), .int v5_78] [] rfl rfl (Nat.le_of_ble_eq_true rfl) dX8_ship_92 (c_X8_spreadPossible n4 h4 v5_78 σ_78) (fun σ10 => ?_)
    refine oj_iinc hc 1 (fun u => [(0, .ref (ad 0)), (4, .ref (ad (31 + n4))), (5, .int u)]) 2 rfl kc_1 (fun _ => rfl) (by decide) dX8_ship_95 (fun x11 => ?_)
    refine oj_goto hc 78 dX8_ship_98 (by decide) ?_
    exact hrec_78 x11 σ10
def f_X8_ship (a1 : Int32) (a2 : Int32) (a3 : Int32) (σ : ojS) : Option (Int32 × ojS) :=
  ojB1 (f_X8_isWithin a1 0 999999) (fun (r1 : Int32) =>
    if r1 = 0 then
      some ((-1), σ)
    else
      ojB1 (f_X2_isSea a2 σ) (fun (r2 : Int32) =>
        if r2 = 0 then
          some ((-1), σ)
        else
          ojB1 (f_X8_isWithin a3 0 (σ 0 10)) (fun (r3 : Int32) =>
            if r3 = 0 then
              some ((-1), σ)
            else
              if (σ 0 9) < 8 then
                ojChk (σ 0 9) 8 (
                  ojLet (ojU σ (31 + (σ 0 9).toNatClampNeg) 0 a1) (fun (σ5 : ojS) =>
                    ojLet (ojU σ5 (31 + (σ 0 9).toNatClampNeg) 1 a2) (fun (σ6 : ojS) =>
                      ojChk a2 96 (ojLet (ojU σ6 (39 + (σ 0 9).toNatClampNeg) a2.toNatClampNeg (vp_nar .boolean 1)) (fun (σ7 : ojS) =>
                        f_X8_ship_78 ((σ 0 9).toNatClampNeg) a3 σ7)))))
              else
                some ((-1), σ))))
set_option maxRecDepth 100000 in
set_option maxHeartbeats 4000000 in
theorem wk_X8_ship {l : Launch} {D : va_G} {E : ojE} {ad : Nat → Nat} {X : ojX} {Q : Int32 × ojS → State → Prop} (hc : ojC X (vO_ l D E ad) RX8 cX8_ship 6 4) (hret : ojRi X (vO_ l D E ad) Q cX8_ship .int) (a1 : Int32) (a2 : Int32) (a3 : Int32) (σ : ojS) : ojJ X (vO_ l D E ad) Q (f_X8_ship a1 a2 a3 σ) σ 0 [(0, .ref (ad 0)), (1, .int a1), (2, .int a2), (3, .int a3)] [] := by
  unfold f_X8_ship
  refine oj_iload_n hc dX8_ship_0 rfl 1 rfl ?_
  refine oj_iconst hc 0 dX8_ship_1 kc_0 ?_
  refine oj_ldc hc kd_X8_201 dX8_ship_2 ?_
  refine oj_cS1 hc cs_X8_70 (by omega) [.int a1, .int 0, .int 999999] [] rfl rfl (Nat.le_of_ble_eq_true rfl) dX8_ship_4 (c_X8_isWithin a1 0 999999 σ) (fun r1 => ?_)
  refine oj_if_eq hc 42 dX8_ship_7 (by decide) (fun _ => ?_) ?_
  · refine oj_iconst hc (-1) dX8_ship_42 kc_m1 ?_
    exact hret _ _ _ _ rfl dX8_ship_43
  · refine oj_aload_n hc dX8_ship_10 rfl 0 rfl ?_
    refine oj_getf hc ff_X8_12 oC_OilWatch rfl dX8_ship_11 ?_
    refine oj_iload_n hc dX8_ship_14 rfl 2 rfl ?_
    refine oj_cV1 hc cv_X8_97 (by omega) oC_Net [.int a2] [] rfl rfl (Nat.le_of_ble_eq_true rfl) dX8_ship_15 (c_X2_isSea a2 σ) (fun r2 => ?_)
    refine oj_if_eq hc 42 dX8_ship_18 (by decide) (fun _ => ?_) ?_
    · refine oj_iconst hc (-1) dX8_ship_42 kc_m1 ?_
      exact hret _ _ _ _ rfl dX8_ship_43
    · refine oj_iload_n hc dX8_ship_21 rfl 3 rfl ?_
      refine oj_iconst hc 0 dX8_ship_22 kc_0 ?_
      refine oj_aload_n hc dX8_ship_23 rfl 0 rfl ?_
      refine oj_getf hc ff_X8_74 oC_OilWatch rfl dX8_ship_24 ?_
      refine oj_cS1 hc cs_X8_70 (by omega) [.int a3, .int 0, .int (σ 0 10)] [] rfl rfl (Nat.le_of_ble_eq_true rfl) dX8_ship_27 (c_X8_isWithin a3 0 (σ 0 10) σ) (fun r3 => ?_)
      refine oj_if_eq hc 42 dX8_ship_30 (by decide) (fun _ => ?_) ?_
      · refine oj_iconst hc (-1) dX8_ship_42 kc_m1 ?_
        exact hret _ _ _ _ rfl dX8_ship_43
      · refine oj_aload_n hc dX8_ship_33 rfl 0 rfl ?_
        refine oj_getf hc ff_X8_161 oC_OilWatch rfl dX8_ship_34 ?_
        refine oj_bipush hc 8 dX8_ship_37 kb_8 ?_
        refine oj_icmp_lt hc 44 dX8_ship_39 (by decide) (fun _ => ?_) ?_
        · refine oj_aload_n hc dX8_ship_44 rfl 0 rfl ?_
          refine oj_getf hc ff_X8_57 oC_OilWatch rfl dX8_ship_45 ?_
          refine oj_aload_n hc dX8_ship_48 rfl 0 rfl ?_
          refine oj_getf hc ff_X8_161 oC_OilWatch rfl dX8_ship_49 ?_
          refine oj_aald hc 2 oC_ships rfl dX8_ship_52 (fun hi4 => ?_)
          refine oj_astore hc [(0, .ref (ad 0)), (1, .int a1), (2, .int a2), (3, .int a3), (4, .ref (ad (31 + (σ 0 9).toNatClampNeg)))] rfl (by decide) dX8_ship_53 ?_
          refine oj_aload hc dX8_ship_55 4 rfl ?_
          refine oj_iload_n hc dX8_ship_57 rfl 1 rfl ?_
          refine oj_putf hc fp_X8_202 (oC_Ship hi4) (oC_Ship_s0 hi4) rfl rfl (Nat.le_of_ble_eq_true rfl) dX8_ship_58 (fun σ5 => ?_)
          refine oj_aload hc dX8_ship_61 4 rfl ?_
          refine oj_iload_n hc dX8_ship_63 rfl 2 rfl ?_
          refine oj_putf hc fp_X8_205 (oC_Ship hi4) (oC_Ship_s1 hi4) rfl rfl (Nat.le_of_ble_eq_true rfl) dX8_ship_64 (fun σ6 => ?_)
          refine oj_aload hc dX8_ship_67 4 rfl ?_
          refine oj_getf hc ff_X8_206 (oC_Ship hi4) rfl dX8_ship_69 ?_
          refine oj_iload_n hc dX8_ship_72 rfl 2 rfl ?_
          refine oj_iconst hc 1 dX8_ship_73 kc_1 ?_
          refine oj_zast hc 1 (oC_possible hi4) (oC_possible_s hi4) rfl rfl dX8_ship_74 (fun σ7 => ?_)
          refine oj_iload_n hc dX8_ship_75 rfl 3 rfl ?_
          refine oj_istore hc [(0, .ref (ad 0)), (1, .int a1), (2, .int a2), (3, .int a3), (4, .ref (ad (31 + (σ 0 9).toNatClampNeg))), (5, .int a3)] rfl (by decide) dX8_ship_76 ?_
          refine oj_sub [0, 4, 5] rfl ?_
          exact wk_X8_ship_78 hc hret ((σ 0 9).toNatClampNeg) hi4 a3 σ7
        · refine oj_iconst hc (-1) dX8_ship_42 kc_m1 ?_
          exact hret _ _ _ _ rfl dX8_ship_43
set_option maxRecDepth 100000 in
theorem c_X8_ship {l : Launch} {D : va_G} {E : ojE} {ad : Nat → Nat} (a1 : Int32) (a2 : Int32) (a3 : Int32) (σ : ojS) : ∀ (r : Int32) (σ1 : ojS), f_X8_ship a1 a2 a3 σ = some (r, σ1) → ojMi (vO_ l D E ad) yX8_ship cX8_ship 6 (some .int) 4 [.ref (ad 0), .int a1, .int a2, .int a3] σ r σ1 :=
  ojMi_W (by decide +kernel) rfl .int rfl (Nat.le_of_ble_eq_true rfl) rfl (fun X Q hc hret => wk_X8_ship hc hret a1 a2 a3 σ)

def f_X8_could (a1 : Int32) (a2 : Int32) (σ : ojS) : Option (Int32) :=
  ojB1 (f_X8_isWithin a1 0 ((σ 0 9) - 1)) (fun (r1 : Int32) =>
    if r1 = 0 then
      some 0
    else
      ojB1 (f_X2_isSea a2 σ) (fun (r2 : Int32) =>
        if r2 = 0 then
          some 0
        else
          ojChk a1 8 (
            ojChk a2 96 (
              if (σ (39 + a1.toNatClampNeg) a2.toNatClampNeg) = 0 then
                some 0
              else
                some 1))))
set_option maxRecDepth 100000 in
set_option maxHeartbeats 4000000 in
theorem wk_X8_could {l : Launch} {D : va_G} {E : ojE} {ad : Nat → Nat} {X : ojX} {Q : Int32 → State → Prop} (hc : ojC X (vO_ l D E ad) RX8 cX8_could 3 3) (σ : ojS) (hret : ojRr X (vO_ l D E ad) Q cX8_could .boolean σ) (a1 : Int32) (a2 : Int32) : ojJ X (vO_ l D E ad) Q (f_X8_could a1 a2 σ) σ 0 [(0, .ref (ad 0)), (1, .int a1), (2, .int a2)] [] := by
  unfold f_X8_could
  refine oj_iload_n hc dX8_could_0 rfl 1 rfl ?_
  refine oj_iconst hc 0 dX8_could_1 kc_0 ?_
  refine oj_aload_n hc dX8_could_2 rfl 0 rfl ?_
  refine oj_getf hc ff_X8_161 oC_OilWatch rfl dX8_could_3 ?_
  refine oj_iconst hc 1 dX8_could_6 kc_1 ?_
  refine oj_isub hc dX8_could_7 ?_
  refine oj_cS1 hc cs_X8_70 (by omega) [.int a1, .int 0, .int ((σ 0 9) - 1)] [] rfl rfl (Nat.le_of_ble_eq_true rfl) dX8_could_8 (c_X8_isWithin a1 0 ((σ 0 9) - 1) σ) (fun r1 => ?_)
  refine oj_if_eq hc 43 dX8_could_11 (by decide) (fun _ => ?_) ?_
  · refine oj_iconst hc 0 dX8_could_43 kc_0 ?_
    exact hret _ _ _ rfl dX8_could_44
  · refine oj_aload_n hc dX8_could_14 rfl 0 rfl ?_
    refine oj_getf hc ff_X8_12 oC_OilWatch rfl dX8_could_15 ?_
    refine oj_iload_n hc dX8_could_18 rfl 2 rfl ?_
    refine oj_cV1 hc cv_X8_97 (by omega) oC_Net [.int a2] [] rfl rfl (Nat.le_of_ble_eq_true rfl) dX8_could_19 (c_X2_isSea a2 σ) (fun r2 => ?_)
    refine oj_if_eq hc 43 dX8_could_22 (by decide) (fun _ => ?_) ?_
    · refine oj_iconst hc 0 dX8_could_43 kc_0 ?_
      exact hret _ _ _ rfl dX8_could_44
    · refine oj_aload_n hc dX8_could_25 rfl 0 rfl ?_
      refine oj_getf hc ff_X8_57 oC_OilWatch rfl dX8_could_26 ?_
      refine oj_iload_n hc dX8_could_29 rfl 1 rfl ?_
      refine oj_aald hc 2 oC_ships rfl dX8_could_30 (fun hi3 => ?_)
      refine oj_getf hc ff_X8_206 (oC_Ship hi3) rfl dX8_could_31 ?_
      refine oj_iload_n hc dX8_could_34 rfl 2 rfl ?_
      refine oj_zald hc 1 (oC_possible hi3) rfl dX8_could_35 ?_
      refine oj_if_eq hc 43 dX8_could_36 (by decide) (fun _ => ?_) ?_
      · refine oj_iconst hc 0 dX8_could_43 kc_0 ?_
        exact hret _ _ _ rfl dX8_could_44
      · refine oj_iconst hc 1 dX8_could_39 kc_1 ?_
        refine oj_goto hc 44 dX8_could_40 (by decide) ?_
        exact hret _ _ _ rfl dX8_could_44
set_option maxRecDepth 100000 in
theorem c_X8_could {l : Launch} {D : va_G} {E : ojE} {ad : Nat → Nat} (a1 : Int32) (a2 : Int32) (σ : ojS) : ∀ (r : Int32), f_X8_could a1 a2 σ = some r → ojMi (vO_ l D E ad) yX8_could cX8_could 3 (some .boolean) 3 [.ref (ad 0), .int a1, .int a2] σ r σ :=
  ojMi_R (by decide +kernel) rfl .boolean rfl (Nat.le_of_ble_eq_true rfl) rfl (fun X Q hc hret => wk_X8_could hc σ hret a1 a2)

def f_X8_markDifference_10 (a2 : Int32) (a3 : Int32) (a4 : Int32) (a5 : Int32) : Option (Int32) :=
  ojFix (fun _ _ _ _ => none) 600 (fun (rec_10 : Int32 → Int32 → Int32 → Int32 → Option (Int32)) (v2_10 : Int32) (v3_10 : Int32) (v4_10 : Int32) (v5_10 : Int32) =>
    if 6 ≤ v5_10 then
      some v2_10
    else
      ojLet ((ojRem v3_10 10) - (ojRem v4_10 10)) (fun (x1 : Int32) =>
        ojLet (v2_10 + (x1 * x1)) (fun (x2 : Int32) =>
          ojLet (v3_10 / 10) (fun (x3 : Int32) =>
            ojLet (v4_10 / 10) (fun (x4 : Int32) =>
              ojLet (v5_10 + 1) (fun (x5 : Int32) =>
                rec_10 x2 x3 x4 x5)))))) a2 a3 a4 a5
set_option maxRecDepth 100000 in
set_option maxHeartbeats 4000000 in
theorem wk_X8_markDifference_10 {l : Launch} {D : va_G} {E : ojE} {ad : Nat → Nat} {X : ojX} {Q : Int32 → State → Prop} (hc : ojC X (vO_ l D E ad) RX8 cX8_markDifference 7 1) (σ : ojS) (hret : ojRr X (vO_ l D E ad) Q cX8_markDifference .int σ) (a2 : Int32) (a3 : Int32) (a4 : Int32) (a5 : Int32) : ojJ X (vO_ l D E ad) Q (f_X8_markDifference_10 a2 a3 a4 a5) σ 10 [(2, .int a2), (3, .int a3), (4, .int a4), (5, .int a5)] [] := by
  unfold f_X8_markDifference_10
  refine oj_fix (fun (r : Int32 → Int32 → Int32 → Int32 → Option (Int32)) => ∀ (v2_10 : Int32) (v3_10 : Int32) (v4_10 : Int32) (v5_10 : Int32), ojJ X (vO_ l D E ad) Q (r v2_10 v3_10 v4_10 v5_10) σ 10 [(2, .int v2_10), (3, .int v3_10), (4, .int v4_10), (5, .int v5_10)] []) _ (fun _ _ _ _ => oj_none) (fun rec_10 hrec_10 v2_10 v3_10 v4_10 v5_10 => ?_) 600 a2 a3 a4 a5
  refine oj_iload hc dX8_markDifference_10 3 rfl ?_
  refine oj_bipush hc 6 dX8_markDifference_12 kb_6 ?_
  refine oj_icmp_ge hc 55 dX8_markDifference_14 (by decide) (fun _ => ?_) ?_
  · refine oj_iload_n hc dX8_markDifference_55 rfl 0 rfl ?_
    exact hret _ _ _ rfl dX8_markDifference_56
  · refine oj_iload_n hc dX8_markDifference_17 rfl 1 rfl ?_
    refine oj_bipush hc 10 dX8_markDifference_18 kb_10 ?_
    refine oj_irem hc dX8_markDifference_20 (by decide) ?_
    refine oj_iload hc dX8_markDifference_21 2 rfl ?_
    refine oj_bipush hc 10 dX8_markDifference_23 kb_10 ?_
    refine oj_irem hc dX8_markDifference_25 (by decide) ?_
    refine oj_isub hc dX8_markDifference_26 ?_
    refine oj_nm (fun x1 => ?_)
    refine oj_istore hc [(2, .int v2_10), (3, .int v3_10), (4, .int v4_10), (5, .int v5_10), (6, .int x1)] rfl (by decide) dX8_markDifference_27 ?_
    refine oj_iload_n hc dX8_markDifference_29 rfl 0 rfl ?_
    refine oj_iload hc dX8_markDifference_30 4 rfl ?_
    refine oj_iload hc dX8_markDifference_32 4 rfl ?_
    refine oj_imul hc dX8_markDifference_34 ?_
    refine oj_iadd hc dX8_markDifference_35 ?_
    refine oj_nm (fun x2 => ?_)
    refine oj_istore_n hc [(2, .int x2), (3, .int v3_10), (4, .int v4_10), (5, .int v5_10), (6, .int x1)] rfl (by decide) dX8_markDifference_36 rfl ?_
    refine oj_iload_n hc dX8_markDifference_37 rfl 1 rfl ?_
    refine oj_bipush hc 10 dX8_markDifference_38 kb_10 ?_
    refine oj_idiv hc dX8_markDifference_40 (by decide) ?_
    refine oj_nm (fun x3 => ?_)
    refine oj_istore_n hc [(2, .int x2), (3, .int x3), (4, .int v4_10), (5, .int v5_10), (6, .int x1)] rfl (by decide) dX8_markDifference_41 rfl ?_
    refine oj_iload hc dX8_markDifference_42 2 rfl ?_
    refine oj_bipush hc 10 dX8_markDifference_44 kb_10 ?_
    refine oj_idiv hc dX8_markDifference_46 (by decide) ?_
    refine oj_nm (fun x4 => ?_)
    refine oj_istore hc [(2, .int x2), (3, .int x3), (4, .int x4), (5, .int v5_10), (6, .int x1)] rfl (by decide) dX8_markDifference_47 ?_
    refine oj_iinc hc 1 (fun u => [(2, .int x2), (3, .int x3), (4, .int x4), (5, .int u), (6, .int x1)]) 3 rfl kc_1 (fun _ => rfl) (by decide) dX8_markDifference_49 (fun x5 => ?_)
    refine oj_goto hc 10 dX8_markDifference_52 (by decide) ?_
    refine oj_sub [0, 1, 2, 3] rfl ?_
    exact hrec_10 x2 x3 x4 x5
def f_X8_markDifference (a0 : Int32) (a1 : Int32) : Option (Int32) :=
  f_X8_markDifference_10 0 a0 a1 0
set_option maxRecDepth 100000 in
set_option maxHeartbeats 4000000 in
theorem wk_X8_markDifference {l : Launch} {D : va_G} {E : ojE} {ad : Nat → Nat} {X : ojX} {Q : Int32 → State → Prop} (hc : ojC X (vO_ l D E ad) RX8 cX8_markDifference 7 1) (σ : ojS) (hret : ojRr X (vO_ l D E ad) Q cX8_markDifference .int σ) (a0 : Int32) (a1 : Int32) : ojJ X (vO_ l D E ad) Q (f_X8_markDifference a0 a1) σ 0 [(0, .int a0), (1, .int a1)] [] := by
  unfold f_X8_markDifference
  refine oj_iconst hc 0 dX8_markDifference_0 kc_0 ?_
  refine oj_istore_n hc [(0, .int a0), (1, .int a1), (2, .int 0)] rfl (by decide) dX8_markDifference_1 rfl ?_
  refine oj_iload_n hc dX8_markDifference_2 rfl 0 rfl ?_
  refine oj_istore_n hc [(0, .int a0), (1, .int a1), (2, .int 0), (3, .int a0)] rfl (by decide) dX8_markDifference_3 rfl ?_
  refine oj_iload_n hc dX8_markDifference_4 rfl 1 rfl ?_
  refine oj_istore hc [(0, .int a0), (1, .int a1), (2, .int 0), (3, .int a0), (4, .int a1)] rfl (by decide) dX8_markDifference_5 ?_
  refine oj_iconst hc 0 dX8_markDifference_7 kc_0 ?_
  refine oj_istore hc [(0, .int a0), (1, .int a1), (2, .int 0), (3, .int a0), (4, .int a1), (5, .int 0)] rfl (by decide) dX8_markDifference_8 ?_
  refine oj_sub [2, 3, 4, 5] rfl ?_
  exact wk_X8_markDifference_10 hc _ hret 0 a0 a1 0
set_option maxRecDepth 100000 in
theorem c_X8_markDifference {l : Launch} {D : va_G} {E : ojE} {ad : Nat → Nat} (a0 : Int32) (a1 : Int32) (σ : ojS) : ∀ (r : Int32), f_X8_markDifference a0 a1 = some r → ojMi (vO_ l D E ad) yX8_markDifference cX8_markDifference 7 (some .int) 1 [.int a0, .int a1] σ r σ :=
  ojMi_R (by decide +kernel) rfl .int rfl (Nat.le_of_ble_eq_true rfl) rfl (fun X Q hc hret => wk_X8_markDifference hc σ hret a0 a1)

def f_X8_isDoubtful_3 (a1 : Int32) (a2 : Int32) (a3 : Int32) (a4 : Int32) (a5 : Int32) (σ : ojS) : Option (Int32) :=
  ojFix (fun _ => none) 600 (fun (rec_3 : Int32 → Option (Int32)) (v5_3 : Int32) =>
    if (σ 0 9) ≤ v5_3 then
      some 0
    else
      if v5_3 = a1 then
        ojLet (v5_3 + 1) (fun (x1 : Int32) =>
          rec_3 x1)
      else
        ojChk v5_3 8 (
          ojChk a3 96 (
            if (σ (39 + v5_3.toNatClampNeg) a3.toNatClampNeg) = 0 then
              ojLet (v5_3 + 1) (fun (x3 : Int32) =>
                rec_3 x3)
            else
              ojChk v5_3 8 (
                ojB1 (f_X8_markDifference (σ (31 + v5_3.toNatClampNeg) 0) a4) (fun (r5 : Int32) =>
                  if a2 ≤ r5 then
                    ojLet (v5_3 + 1) (fun (x6 : Int32) =>
                      rec_3 x6)
                  else
                    some 1))))) a5
set_option maxRecDepth 100000 in
set_option maxHeartbeats 4000000 in
theorem wk_X8_isDoubtful_3 {l : Launch} {D : va_G} {E : ojE} {ad : Nat → Nat} {X : ojX} {Q : Int32 → State → Prop} (hc : ojC X (vO_ l D E ad) RX8 cX8_isDoubtful 6 2) (σ : ojS) (hret : ojRr X (vO_ l D E ad) Q cX8_isDoubtful .boolean σ) (a1 : Int32) (a2 : Int32) (a3 : Int32) (a4 : Int32) (a5 : Int32) : ojJ X (vO_ l D E ad) Q (f_X8_isDoubtful_3 a1 a2 a3 a4 a5 σ) σ 3 [(0, .ref (ad 0)), (1, .int a1), (2, .int a2), (3, .int a3), (4, .int a4), (5, .int a5)] [] := by
  unfold f_X8_isDoubtful_3
  refine oj_fix (fun (r : Int32 → Option (Int32)) => ∀ (v5_3 : Int32), ojJ X (vO_ l D E ad) Q (r v5_3) σ 3 [(0, .ref (ad 0)), (1, .int a1), (2, .int a2), (3, .int a3), (4, .int a4), (5, .int v5_3)] []) _ (fun _ => oj_none) (fun rec_3 hrec_3 v5_3 => ?_) 600 a5
  refine oj_iload hc dX8_isDoubtful_3 5 rfl ?_
  refine oj_aload_n hc dX8_isDoubtful_5 rfl 0 rfl ?_
  refine oj_getf hc ff_X8_161 oC_OilWatch rfl dX8_isDoubtful_6 ?_
  refine oj_icmp_ge hc 60 dX8_isDoubtful_9 (by decide) (fun _ => ?_) ?_
  · refine oj_iconst hc 0 dX8_isDoubtful_60 kc_0 ?_
    exact hret _ _ _ rfl dX8_isDoubtful_61
  · refine oj_iload hc dX8_isDoubtful_12 5 rfl ?_
    refine oj_iload_n hc dX8_isDoubtful_14 rfl 1 rfl ?_
    refine oj_icmp_eq hc 54 dX8_isDoubtful_15 (by decide) (fun _ => ?_) ?_
    · refine oj_iinc hc 1 (fun u => [(0, .ref (ad 0)), (1, .int a1), (2, .int a2), (3, .int a3), (4, .int a4), (5, .int u)]) 5 rfl kc_1 (fun _ => rfl) (by decide) dX8_isDoubtful_54 (fun x1 => ?_)
      refine oj_goto hc 3 dX8_isDoubtful_57 (by decide) ?_
      exact hrec_3 x1
    · refine oj_aload_n hc dX8_isDoubtful_18 rfl 0 rfl ?_
      refine oj_getf hc ff_X8_57 oC_OilWatch rfl dX8_isDoubtful_19 ?_
      refine oj_iload hc dX8_isDoubtful_22 5 rfl ?_
      refine oj_aald hc 2 oC_ships rfl dX8_isDoubtful_24 (fun hi2 => ?_)
      refine oj_getf hc ff_X8_206 (oC_Ship hi2) rfl dX8_isDoubtful_25 ?_
      refine oj_iload_n hc dX8_isDoubtful_28 rfl 3 rfl ?_
      refine oj_zald hc 1 (oC_possible hi2) rfl dX8_isDoubtful_29 ?_
      refine oj_if_eq hc 54 dX8_isDoubtful_30 (by decide) (fun _ => ?_) ?_
      · refine oj_iinc hc 1 (fun u => [(0, .ref (ad 0)), (1, .int a1), (2, .int a2), (3, .int a3), (4, .int a4), (5, .int u)]) 5 rfl kc_1 (fun _ => rfl) (by decide) dX8_isDoubtful_54 (fun x3 => ?_)
        refine oj_goto hc 3 dX8_isDoubtful_57 (by decide) ?_
        exact hrec_3 x3
      · refine oj_aload_n hc dX8_isDoubtful_33 rfl 0 rfl ?_
        refine oj_getf hc ff_X8_57 oC_OilWatch rfl dX8_isDoubtful_34 ?_
        refine oj_iload hc dX8_isDoubtful_37 5 rfl ?_
        refine oj_aald hc 2 oC_ships rfl dX8_isDoubtful_39 (fun hi4 => ?_)
        refine oj_getf hc ff_X8_202 (oC_Ship hi4) rfl dX8_isDoubtful_40 ?_
        refine oj_iload hc dX8_isDoubtful_43 4 rfl ?_
        refine oj_cS1 hc cs_X8_210 (by omega) [.int (σ (31 + v5_3.toNatClampNeg) 0), .int a4] [] rfl rfl (Nat.le_of_ble_eq_true rfl) dX8_isDoubtful_45 (c_X8_markDifference (σ (31 + v5_3.toNatClampNeg) 0) a4 σ) (fun r5 => ?_)
        refine oj_iload_n hc dX8_isDoubtful_48 rfl 2 rfl ?_
        refine oj_icmp_ge hc 54 dX8_isDoubtful_49 (by decide) (fun _ => ?_) ?_
        · refine oj_iinc hc 1 (fun u => [(0, .ref (ad 0)), (1, .int a1), (2, .int a2), (3, .int a3), (4, .int a4), (5, .int u)]) 5 rfl kc_1 (fun _ => rfl) (by decide) dX8_isDoubtful_54 (fun x6 => ?_)
          refine oj_goto hc 3 dX8_isDoubtful_57 (by decide) ?_
          exact hrec_3 x6
        · refine oj_iconst hc 1 dX8_isDoubtful_52 kc_1 ?_
          exact hret _ _ _ rfl dX8_isDoubtful_53
def f_X8_isDoubtful (a1 : Int32) (a2 : Int32) (a3 : Int32) (a4 : Int32) (σ : ojS) : Option (Int32) :=
  f_X8_isDoubtful_3 a1 a2 a3 a4 0 σ
set_option maxRecDepth 100000 in
set_option maxHeartbeats 4000000 in
theorem wk_X8_isDoubtful {l : Launch} {D : va_G} {E : ojE} {ad : Nat → Nat} {X : ojX} {Q : Int32 → State → Prop} (hc : ojC X (vO_ l D E ad) RX8 cX8_isDoubtful 6 2) (σ : ojS) (hret : ojRr X (vO_ l D E ad) Q cX8_isDoubtful .boolean σ) (a1 : Int32) (a2 : Int32) (a3 : Int32) (a4 : Int32) : ojJ X (vO_ l D E ad) Q (f_X8_isDoubtful a1 a2 a3 a4 σ) σ 0 [(0, .ref (ad 0)), (1, .int a1), (2, .int a2), (3, .int a3), (4, .int a4)] [] := by
  unfold f_X8_isDoubtful
  refine oj_iconst hc 0 dX8_isDoubtful_0 kc_0 ?_
  refine oj_istore hc [(0, .ref (ad 0)), (1, .int a1), (2, .int a2), (3, .int a3), (4, .int a4), (5, .int 0)] rfl (by decide) dX8_isDoubtful_1 ?_
  exact wk_X8_isDoubtful_3 hc _ hret a1 a2 a3 a4 0
set_option maxRecDepth 100000 in
theorem c_X8_isDoubtful {l : Launch} {D : va_G} {E : ojE} {ad : Nat → Nat} (a1 : Int32) (a2 : Int32) (a3 : Int32) (a4 : Int32) (σ : ojS) : ∀ (r : Int32), f_X8_isDoubtful a1 a2 a3 a4 σ = some r → ojMi (vO_ l D E ad) yX8_isDoubtful cX8_isDoubtful 6 (some .boolean) 2 [.ref (ad 0), .int a1, .int a2, .int a3, .int a4] σ r σ :=
  ojMi_R (by decide +kernel) rfl .boolean rfl (Nat.le_of_ble_eq_true rfl) rfl (fun X Q hc hret => wk_X8_isDoubtful hc σ hret a1 a2 a3 a4)

def f_X8_sample_31 (a1 : Int32) (a2 : Int32) (a3 : Int32) (a4 : Int32) (a5 : Int32) (σ : ojS) : Option (Int32) :=
  ojFix (fun _ _ _ => none) 600 (fun (rec_31 : Int32 → Int32 → Int32 → Option (Int32)) (v3_31 : Int32) (v4_31 : Int32) (v5_31 : Int32) =>
    if (σ 0 9) ≤ v5_31 then
      ojB1 (f_X8_isDoubtful v3_31 (v4_31 + 5) a1 a2 σ) (fun (r3 : Int32) =>
        if r3 = 0 then
          some v3_31
        else
          some (-2))
    else
      ojChk v5_31 8 (
        ojB1 (f_X8_markDifference (σ (31 + v5_31.toNatClampNeg) 0) a2) (fun (r5 : Int32) =>
          ojChk v5_31 8 (
            ojChk a1 96 (
              if (σ (39 + v5_31.toNatClampNeg) a1.toNatClampNeg) = 0 then
                ojLet (v5_31 + 1) (fun (x7 : Int32) =>
                  rec_31 v3_31 v4_31 x7)
              else
                if v3_31 = (-1) then
                  ojLet (v5_31 + 1) (fun (x8 : Int32) =>
                    rec_31 v5_31 r5 x8)
                else
                  if v4_31 ≤ r5 then
                    ojLet (v5_31 + 1) (fun (x9 : Int32) =>
                      rec_31 v3_31 v4_31 x9)
                  else
                    ojLet (v5_31 + 1) (fun (x10 : Int32) =>
                      rec_31 v5_31 r5 x10)))))) a3 a4 a5
set_option maxRecDepth 100000 in
set_option maxHeartbeats 4000000 in
theorem wk_X8_sample_31 {l : Launch} {D : va_G} {E : ojE} {ad : Nat → Nat} {X : ojX} {Q : Int32 → State → Prop} (hc : ojC X (vO_ l D E ad) RX8 cX8_sample 7 3) (σ : ojS) (hret : ojRr X (vO_ l D E ad) Q cX8_sample .int σ) (a1 : Int32) (a2 : Int32) (a3 : Int32) (a4 : Int32) (a5 : Int32) : ojJ X (vO_ l D E ad) Q (f_X8_sample_31 a1 a2 a3 a4 a5 σ) σ 31 [(0, .ref (ad 0)), (1, .int a1), (2, .int a2), (3, .int a3), (4, .int a4), (5, .int a5)] [] := by
  unfold f_X8_sample_31
  refine oj_fix (fun (r : Int32 → Int32 → Int32 → Option (Int32)) => ∀ (v3_31 : Int32) (v4_31 : Int32) (v5_31 : Int32), ojJ X (vO_ l D E ad) Q (r v3_31 v4_31 v5_31) σ 31 [(0, .ref (ad 0)), (1, .int a1), (2, .int a2), (3, .int v3_31), (4, .int v4_31), (5, .int v5_31)] []) _ (fun _ _ _ => oj_none) (fun rec_31 hrec_31 v3_31 v4_31 v5_31 => ?_) 600 a3 a4 a5
  refine oj_iload hc dX8_sample_31 5 rfl ?_
  refine oj_aload_n hc dX8_sample_33 rfl 0 rfl ?_
  refine oj_getf hc ff_X8_161 oC_OilWatch rfl dX8_sample_34 ?_
  refine oj_icmp_ge hc 96 dX8_sample_37 (by decide) (fun _ => ?_) ?_
  · refine oj_aload_n hc dX8_sample_96 rfl 0 rfl ?_
    refine oj_iload_n hc dX8_sample_97 rfl 3 rfl ?_
    refine oj_iload hc dX8_sample_98 4 rfl ?_
    refine oj_iconst hc 5 dX8_sample_100 kc_5 ?_
    refine oj_iadd hc dX8_sample_101 ?_
    refine oj_iload_n hc dX8_sample_102 rfl 1 rfl ?_
    refine oj_iload_n hc dX8_sample_103 rfl 2 rfl ?_
    refine oj_cV1 hc cv_X8_213 (by omega) oC_OilWatch [.int v3_31, .int (v4_31 + 5), .int a1, .int a2] [] rfl rfl (Nat.le_of_ble_eq_true rfl) dX8_sample_104 (c_X8_isDoubtful v3_31 (v4_31 + 5) a1 a2 σ) (fun r3 => ?_)
    refine oj_if_eq hc 115 dX8_sample_107 (by decide) (fun _ => ?_) ?_
    · refine oj_iload_n hc dX8_sample_115 rfl 3 rfl ?_
      exact hret _ _ _ rfl dX8_sample_116
    · refine oj_bipush hc (-2) dX8_sample_110 kb_m2 ?_
      refine oj_goto hc 116 dX8_sample_112 (by decide) ?_
      exact hret _ _ _ rfl dX8_sample_116
  · refine oj_aload_n hc dX8_sample_40 rfl 0 rfl ?_
    refine oj_getf hc ff_X8_57 oC_OilWatch rfl dX8_sample_41 ?_
    refine oj_iload hc dX8_sample_44 5 rfl ?_
    refine oj_aald hc 2 oC_ships rfl dX8_sample_46 (fun hi4 => ?_)
    refine oj_getf hc ff_X8_202 (oC_Ship hi4) rfl dX8_sample_47 ?_
    refine oj_iload_n hc dX8_sample_50 rfl 2 rfl ?_
    refine oj_cS1 hc cs_X8_210 (by omega) [.int (σ (31 + v5_31.toNatClampNeg) 0), .int a2] [] rfl rfl (Nat.le_of_ble_eq_true rfl) dX8_sample_51 (c_X8_markDifference (σ (31 + v5_31.toNatClampNeg) 0) a2 σ) (fun r5 => ?_)
    refine oj_istore hc [(0, .ref (ad 0)), (1, .int a1), (2, .int a2), (3, .int v3_31), (4, .int v4_31), (5, .int v5_31), (6, .int r5)] rfl (by decide) dX8_sample_54 ?_
    refine oj_aload_n hc dX8_sample_56 rfl 0 rfl ?_
    refine oj_getf hc ff_X8_57 oC_OilWatch rfl dX8_sample_57 ?_
    refine oj_iload hc dX8_sample_60 5 rfl ?_
    refine oj_aald hc 2 oC_ships rfl dX8_sample_62 (fun hi6 => ?_)
    refine oj_getf hc ff_X8_206 (oC_Ship hi6) rfl dX8_sample_63 ?_
    refine oj_iload_n hc dX8_sample_66 rfl 1 rfl ?_
    refine oj_zald hc 1 (oC_possible hi6) rfl dX8_sample_67 ?_
    refine oj_if_eq hc 90 dX8_sample_68 (by decide) (fun _ => ?_) ?_
    · refine oj_iinc hc 1 (fun u => [(0, .ref (ad 0)), (1, .int a1), (2, .int a2), (3, .int v3_31), (4, .int v4_31), (5, .int u), (6, .int r5)]) 5 rfl kc_1 (fun _ => rfl) (by decide) dX8_sample_90 (fun x7 => ?_)
      refine oj_goto hc 31 dX8_sample_93 (by decide) ?_
      refine oj_sub [0, 1, 2, 3, 4, 5] rfl ?_
      exact hrec_31 v3_31 v4_31 x7
    · refine oj_iload_n hc dX8_sample_71 rfl 3 rfl ?_
      refine oj_iconst hc (-1) dX8_sample_72 kc_m1 ?_
      refine oj_icmp_eq hc 83 dX8_sample_73 (by decide) (fun _ => ?_) ?_
      · refine oj_iload hc dX8_sample_83 5 rfl ?_
        refine oj_istore_n hc [(0, .ref (ad 0)), (1, .int a1), (2, .int a2), (3, .int v5_31), (4, .int v4_31), (5, .int v5_31), (6, .int r5)] rfl (by decide) dX8_sample_85 rfl ?_
        refine oj_iload hc dX8_sample_86 6 rfl ?_
        refine oj_istore hc [(0, .ref (ad 0)), (1, .int a1), (2, .int a2), (3, .int v5_31), (4, .int r5), (5, .int v5_31), (6, .int r5)] rfl (by decide) dX8_sample_88 ?_
        refine oj_iinc hc 1 (fun u => [(0, .ref (ad 0)), (1, .int a1), (2, .int a2), (3, .int v5_31), (4, .int r5), (5, .int u), (6, .int r5)]) 5 rfl kc_1 (fun _ => rfl) (by decide) dX8_sample_90 (fun x8 => ?_)
        refine oj_goto hc 31 dX8_sample_93 (by decide) ?_
        refine oj_sub [0, 1, 2, 3, 4, 5] rfl ?_
        exact hrec_31 v5_31 r5 x8
      · refine oj_iload hc dX8_sample_76 6 rfl ?_
        refine oj_iload hc dX8_sample_78 4 rfl ?_
        refine oj_icmp_ge hc 90 dX8_sample_80 (by decide) (fun _ => ?_) ?_
        · refine oj_iinc hc 1 (fun u => [(0, .ref (ad 0)), (1, .int a1), (2, .int a2), (3, .int v3_31), (4, .int v4_31), (5, .int u), (6, .int r5)]) 5 rfl kc_1 (fun _ => rfl) (by decide) dX8_sample_90 (fun x9 => ?_)
          refine oj_goto hc 31 dX8_sample_93 (by decide) ?_
          refine oj_sub [0, 1, 2, 3, 4, 5] rfl ?_
          exact hrec_31 v3_31 v4_31 x9
        · refine oj_iload hc dX8_sample_83 5 rfl ?_
          refine oj_istore_n hc [(0, .ref (ad 0)), (1, .int a1), (2, .int a2), (3, .int v5_31), (4, .int v4_31), (5, .int v5_31), (6, .int r5)] rfl (by decide) dX8_sample_85 rfl ?_
          refine oj_iload hc dX8_sample_86 6 rfl ?_
          refine oj_istore hc [(0, .ref (ad 0)), (1, .int a1), (2, .int a2), (3, .int v5_31), (4, .int r5), (5, .int v5_31), (6, .int r5)] rfl (by decide) dX8_sample_88 ?_
          refine oj_iinc hc 1 (fun u => [(0, .ref (ad 0)), (1, .int a1), (2, .int a2), (3, .int v5_31), (4, .int r5), (5, .int u), (6, .int r5)]) 5 rfl kc_1 (fun _ => rfl) (by decide) dX8_sample_90 (fun x10 => ?_)
          refine oj_goto hc 31 dX8_sample_93 (by decide) ?_
          refine oj_sub [0, 1, 2, 3, 4, 5] rfl ?_
          exact hrec_31 v5_31 r5 x10
def f_X8_sample (a1 : Int32) (a2 : Int32) (σ : ojS) : Option (Int32) :=
  ojB1 (f_X2_isSea a1 σ) (fun (r1 : Int32) =>
    if r1 = 0 then
      some (-1)
    else
      ojB1 (f_X8_isWithin a2 0 999999) (fun (r2 : Int32) =>
        if r2 = 0 then
          some (-1)
        else
          f_X8_sample_31 a1 a2 (-1) 0 0 σ))
set_option maxRecDepth 100000 in
set_option maxHeartbeats 4000000 in
theorem wk_X8_sample {l : Launch} {D : va_G} {E : ojE} {ad : Nat → Nat} {X : ojX} {Q : Int32 → State → Prop} (hc : ojC X (vO_ l D E ad) RX8 cX8_sample 7 3) (σ : ojS) (hret : ojRr X (vO_ l D E ad) Q cX8_sample .int σ) (a1 : Int32) (a2 : Int32) : ojJ X (vO_ l D E ad) Q (f_X8_sample a1 a2 σ) σ 0 [(0, .ref (ad 0)), (1, .int a1), (2, .int a2)] [] := by
  unfold f_X8_sample
  refine oj_aload_n hc dX8_sample_0 rfl 0 rfl ?_
  refine oj_getf hc ff_X8_12 oC_OilWatch rfl dX8_sample_1 ?_
  refine oj_iload_n hc dX8_sample_4 rfl 1 rfl ?_
  refine oj_cV1 hc cv_X8_97 (by omega) oC_Net [.int a1] [] rfl rfl (Nat.le_of_ble_eq_true rfl) dX8_sample_5 (c_X2_isSea a1 σ) (fun r1 => ?_)
  refine oj_if_eq hc 21 dX8_sample_8 (by decide) (fun _ => ?_) ?_
  · refine oj_iconst hc (-1) dX8_sample_21 kc_m1 ?_
    exact hret _ _ _ rfl dX8_sample_22
  · refine oj_iload_n hc dX8_sample_11 rfl 2 rfl ?_
    refine oj_iconst hc 0 dX8_sample_12 kc_0 ?_
    refine oj_ldc hc kd_X8_201 dX8_sample_13 ?_
    refine oj_cS1 hc cs_X8_70 (by omega) [.int a2, .int 0, .int 999999] [] rfl rfl (Nat.le_of_ble_eq_true rfl) dX8_sample_15 (c_X8_isWithin a2 0 999999 σ) (fun r2 => ?_)
    refine oj_if_ne hc 23 dX8_sample_18 (by decide) ?_ (fun _ => ?_)
    · refine oj_iconst hc (-1) dX8_sample_23 kc_m1 ?_
      refine oj_istore_n hc [(0, .ref (ad 0)), (1, .int a1), (2, .int a2), (3, .int ((-1)))] rfl (by decide) dX8_sample_24 rfl ?_
      refine oj_iconst hc 0 dX8_sample_25 kc_0 ?_
      refine oj_istore hc [(0, .ref (ad 0)), (1, .int a1), (2, .int a2), (3, .int ((-1))), (4, .int 0)] rfl (by decide) dX8_sample_26 ?_
      refine oj_iconst hc 0 dX8_sample_28 kc_0 ?_
      refine oj_istore hc [(0, .ref (ad 0)), (1, .int a1), (2, .int a2), (3, .int ((-1))), (4, .int 0), (5, .int 0)] rfl (by decide) dX8_sample_29 ?_
      exact wk_X8_sample_31 hc _ hret a1 a2 (-1) 0 0
    · refine oj_iconst hc (-1) dX8_sample_21 kc_m1 ?_
      exact hret _ _ _ rfl dX8_sample_22
set_option maxRecDepth 100000 in
theorem c_X8_sample {l : Launch} {D : va_G} {E : ojE} {ad : Nat → Nat} (a1 : Int32) (a2 : Int32) (σ : ojS) : ∀ (r : Int32), f_X8_sample a1 a2 σ = some r → ojMi (vO_ l D E ad) yX8_sample cX8_sample 7 (some .int) 3 [.ref (ad 0), .int a1, .int a2] σ r σ :=
  ojMi_R (by decide +kernel) rfl .int rfl (Nat.le_of_ble_eq_true rfl) rfl (fun X Q hc hret => wk_X8_sample hc σ hret a1 a2)

def f_X8_part (a1 : Int32) (a2 : Int32) (σ : ojS) : Option (Int32 × ojS) :=
  ojB1 (f_X8_isWithin a1 0 3) (fun (r1 : Int32) =>
    if r1 = 0 then
      some (0, σ)
    else
      ojB1 (f_X8_isWithin a2 0 100) (fun (r2 : Int32) =>
        if r2 = 0 then
          some (0, σ)
        else
          ojChk a1 4 (ojLet (ojU σ 14 a1.toNatClampNeg a2) (fun (σ3 : ojS) =>
            some (1, σ3)))))
set_option maxRecDepth 100000 in
set_option maxHeartbeats 4000000 in
theorem wk_X8_part {l : Launch} {D : va_G} {E : ojE} {ad : Nat → Nat} {X : ojX} {Q : Int32 × ojS → State → Prop} (hc : ojC X (vO_ l D E ad) RX8 cX8_part 3 2) (hret : ojRi X (vO_ l D E ad) Q cX8_part .boolean) (a1 : Int32) (a2 : Int32) (σ : ojS) : ojJ X (vO_ l D E ad) Q (f_X8_part a1 a2 σ) σ 0 [(0, .ref (ad 0)), (1, .int a1), (2, .int a2)] [] := by
  unfold f_X8_part
  refine oj_iload_n hc dX8_part_0 rfl 1 rfl ?_
  refine oj_iconst hc 0 dX8_part_1 kc_0 ?_
  refine oj_iconst hc 3 dX8_part_2 kc_3 ?_
  refine oj_cS1 hc cs_X8_70 (by omega) [.int a1, .int 0, .int 3] [] rfl rfl (Nat.le_of_ble_eq_true rfl) dX8_part_3 (c_X8_isWithin a1 0 3 σ) (fun r1 => ?_)
  refine oj_if_eq hc 19 dX8_part_6 (by decide) (fun _ => ?_) ?_
  · refine oj_iconst hc 0 dX8_part_19 kc_0 ?_
    exact hret _ _ _ _ rfl dX8_part_20
  · refine oj_iload_n hc dX8_part_9 rfl 2 rfl ?_
    refine oj_iconst hc 0 dX8_part_10 kc_0 ?_
    refine oj_bipush hc 100 dX8_part_11 kb_100 ?_
    refine oj_cS1 hc cs_X8_70 (by omega) [.int a2, .int 0, .int 100] [] rfl rfl (Nat.le_of_ble_eq_true rfl) dX8_part_13 (c_X8_isWithin a2 0 100 σ) (fun r2 => ?_)
    refine oj_if_ne hc 21 dX8_part_16 (by decide) ?_ (fun _ => ?_)
    · refine oj_aload_n hc dX8_part_21 rfl 0 rfl ?_
      refine oj_getf hc ff_X8_62 oC_OilWatch rfl dX8_part_22 ?_
      refine oj_iload_n hc dX8_part_25 rfl 1 rfl ?_
      refine oj_iload_n hc dX8_part_26 rfl 2 rfl ?_
      refine oj_iast hc 0 oC_partsOf oC_partsOf_s rfl rfl dX8_part_27 (fun σ3 => ?_)
      refine oj_iconst hc 1 dX8_part_28 kc_1 ?_
      exact hret _ _ _ _ rfl dX8_part_29
    · refine oj_iconst hc 0 dX8_part_19 kc_0 ?_
      exact hret _ _ _ _ rfl dX8_part_20
set_option maxRecDepth 100000 in
theorem c_X8_part {l : Launch} {D : va_G} {E : ojE} {ad : Nat → Nat} (a1 : Int32) (a2 : Int32) (σ : ojS) : ∀ (r : Int32) (σ1 : ojS), f_X8_part a1 a2 σ = some (r, σ1) → ojMi (vO_ l D E ad) yX8_part cX8_part 3 (some .boolean) 2 [.ref (ad 0), .int a1, .int a2] σ r σ1 :=
  ojMi_W (by decide +kernel) rfl .boolean rfl (Nat.le_of_ble_eq_true rfl) rfl (fun X Q hc hret => wk_X8_part hc hret a1 a2 σ)

def f_X8_litersSkimmed_4 (a1 : Int32) (a2 : Int32) (σ : ojS) : Option (Int32) :=
  ojFix (fun _ _ => none) 600 (fun (rec_4 : Int32 → Int32 → Option (Int32)) (v1_4 : Int32) (v2_4 : Int32) =>
    if (σ 9 1) ≤ v2_4 then
      some v1_4
    else
      ojChk v2_4 4 (
        ojChk v2_4 4 (
          ojLet (v1_4 + ((σ (15 + v2_4.toNatClampNeg) 4) + (σ (27 + 0) v2_4.toNatClampNeg))) (fun (x2 : Int32) =>
            ojLet (v2_4 + 1) (fun (x3 : Int32) =>
              rec_4 x2 x3))))) a1 a2
set_option maxRecDepth 100000 in
set_option maxHeartbeats 4000000 in
theorem wk_X8_litersSkimmed_4 {l : Launch} {D : va_G} {E : ojE} {ad : Nat → Nat} {X : ojX} {Q : Int32 → State → Prop} (hc : ojC X (vO_ l D E ad) RX8 cX8_litersSkimmed 3 1) (σ : ojS) (hret : ojRr X (vO_ l D E ad) Q cX8_litersSkimmed .int σ) (a1 : Int32) (a2 : Int32) : ojJ X (vO_ l D E ad) Q (f_X8_litersSkimmed_4 a1 a2 σ) σ 4 [(0, .ref (ad 0)), (1, .int a1), (2, .int a2)] [] := by
  unfold f_X8_litersSkimmed_4
  refine oj_fix (fun (r : Int32 → Int32 → Option (Int32)) => ∀ (v1_4 : Int32) (v2_4 : Int32), ojJ X (vO_ l D E ad) Q (r v1_4 v2_4) σ 4 [(0, .ref (ad 0)), (1, .int v1_4), (2, .int v2_4)] []) _ (fun _ _ => oj_none) (fun rec_4 hrec_4 v1_4 v2_4 => ?_) 600 a1 a2
  refine oj_iload_n hc dX8_litersSkimmed_4 rfl 2 rfl ?_
  refine oj_aload_n hc dX8_litersSkimmed_5 rfl 0 rfl ?_
  refine oj_getf hc ff_X8_33 oC_OilWatch rfl dX8_litersSkimmed_6 ?_
  refine oj_getf hc ff_X8_171 oC_Fleet rfl dX8_litersSkimmed_9 ?_
  refine oj_icmp_ge hc 46 dX8_litersSkimmed_12 (by decide) (fun _ => ?_) ?_
  · refine oj_iload_n hc dX8_litersSkimmed_46 rfl 1 rfl ?_
    exact hret _ _ _ rfl dX8_litersSkimmed_47
  · refine oj_iload_n hc dX8_litersSkimmed_15 rfl 1 rfl ?_
    refine oj_aload_n hc dX8_litersSkimmed_16 rfl 0 rfl ?_
    refine oj_getf hc ff_X8_33 oC_OilWatch rfl dX8_litersSkimmed_17 ?_
    refine oj_getf hc ff_X8_126 oC_Fleet rfl dX8_litersSkimmed_20 ?_
    refine oj_iload_n hc dX8_litersSkimmed_23 rfl 2 rfl ?_
    refine oj_aald hc 3 oC_skimmers rfl dX8_litersSkimmed_24 (fun hi1 => ?_)
    refine oj_getf hc ff_X8_149 (oC_Skimmer hi1) rfl dX8_litersSkimmed_25 ?_
    refine oj_aload_n hc dX8_litersSkimmed_28 rfl 0 rfl ?_
    refine oj_getf hc ff_X8_40 oC_OilWatch rfl dX8_litersSkimmed_29 ?_
    refine oj_getf hc ff_X8_146 (oC_Slick oj_04) rfl dX8_litersSkimmed_32 ?_
    refine oj_iload_n hc dX8_litersSkimmed_35 rfl 2 rfl ?_
    refine oj_iald hc 0 (oC_loads oj_04) rfl dX8_litersSkimmed_36 ?_
    refine oj_iadd hc dX8_litersSkimmed_37 ?_
    refine oj_iadd hc dX8_litersSkimmed_38 ?_
    refine oj_nm (fun x2 => ?_)
    refine oj_istore_n hc [(0, .ref (ad 0)), (1, .int x2), (2, .int v2_4)] rfl (by decide) dX8_litersSkimmed_39 rfl ?_
    refine oj_iinc hc 1 (fun u => [(0, .ref (ad 0)), (1, .int x2), (2, .int u)]) 2 rfl kc_1 (fun _ => rfl) (by decide) dX8_litersSkimmed_40 (fun x3 => ?_)
    refine oj_goto hc 4 dX8_litersSkimmed_43 (by decide) ?_
    exact hrec_4 x2 x3
def f_X8_litersSkimmed (σ : ojS) : Option (Int32) :=
  f_X8_litersSkimmed_4 0 0 σ
set_option maxRecDepth 100000 in
set_option maxHeartbeats 4000000 in
theorem wk_X8_litersSkimmed {l : Launch} {D : va_G} {E : ojE} {ad : Nat → Nat} {X : ojX} {Q : Int32 → State → Prop} (hc : ojC X (vO_ l D E ad) RX8 cX8_litersSkimmed 3 1) (σ : ojS) (hret : ojRr X (vO_ l D E ad) Q cX8_litersSkimmed .int σ)  : ojJ X (vO_ l D E ad) Q (f_X8_litersSkimmed σ) σ 0 [(0, .ref (ad 0))] [] := by
  unfold f_X8_litersSkimmed
  refine oj_iconst hc 0 dX8_litersSkimmed_0 kc_0 ?_
  refine oj_istore_n hc [(0, .ref (ad 0)), (1, .int 0)] rfl (by decide) dX8_litersSkimmed_1 rfl ?_
  refine oj_iconst hc 0 dX8_litersSkimmed_2 kc_0 ?_
  refine oj_istore_n hc [(0, .ref (ad 0)), (1, .int 0), (2, .int 0)] rfl (by decide) dX8_litersSkimmed_3 rfl ?_
  exact wk_X8_litersSkimmed_4 hc _ hret 0 0
set_option maxRecDepth 100000 in
theorem c_X8_litersSkimmed {l : Launch} {D : va_G} {E : ojE} {ad : Nat → Nat}  (σ : ojS) : ∀ (r : Int32), f_X8_litersSkimmed σ = some r → ojMi (vO_ l D E ad) yX8_litersSkimmed cX8_litersSkimmed 3 (some .int) 1 [.ref (ad 0)] σ r σ :=
  ojMi_R (by decide +kernel) rfl .int rfl (Nat.le_of_ble_eq_true rfl) rfl (fun X Q hc hret => wk_X8_litersSkimmed hc σ hret)

def f_X8_wholeBill (σ : ojS) : Option (Int32) :=
  ojB1 (f_X8_litersSkimmed σ) (fun (r1 : Int32) =>
    ojB1 (f_X8_harmOf 0 σ) (fun (r2 : Int32) =>
      some (((2 * r1) + (50 * (σ 0 13))) + (10 * r2))))
set_option maxRecDepth 100000 in
set_option maxHeartbeats 4000000 in
theorem wk_X8_wholeBill {l : Launch} {D : va_G} {E : ojE} {ad : Nat → Nat} {X : ojX} {Q : Int32 → State → Prop} (hc : ojC X (vO_ l D E ad) RX8 cX8_wholeBill 1 2) (σ : ojS) (hret : ojRr X (vO_ l D E ad) Q cX8_wholeBill .int σ)  : ojJ X (vO_ l D E ad) Q (f_X8_wholeBill σ) σ 0 [(0, .ref (ad 0))] [] := by
  unfold f_X8_wholeBill
  refine oj_iconst hc 2 dX8_wholeBill_0 kc_2 ?_
  refine oj_aload_n hc dX8_wholeBill_1 rfl 0 rfl ?_
  refine oj_cV1 hc cv_X8_237 (by omega) oC_OilWatch [] [.int 2] rfl rfl (Nat.le_of_ble_eq_true rfl) dX8_wholeBill_2 (c_X8_litersSkimmed σ) (fun r1 => ?_)
  refine oj_imul hc dX8_wholeBill_5 ?_
  refine oj_bipush hc 50 dX8_wholeBill_6 kb_50 ?_
  refine oj_aload_n hc dX8_wholeBill_8 rfl 0 rfl ?_
  refine oj_getf hc ff_X8_168 oC_OilWatch rfl dX8_wholeBill_9 ?_
  refine oj_imul hc dX8_wholeBill_12 ?_
  refine oj_iadd hc dX8_wholeBill_13 ?_
  refine oj_bipush hc 10 dX8_wholeBill_14 kb_10 ?_
  refine oj_aload_n hc dX8_wholeBill_16 rfl 0 rfl ?_
  refine oj_aload_n hc dX8_wholeBill_17 rfl 0 rfl ?_
  refine oj_getf hc ff_X8_40 oC_OilWatch rfl dX8_wholeBill_18 ?_
  refine oj_cV1 hc cv_X8_240 (by omega) oC_OilWatch [.ref (ad (19 + 0))] [.int 10, .int ((2 * r1) + (50 * (σ 0 13)))] rfl rfl (Nat.le_of_ble_eq_true rfl) dX8_wholeBill_21 (c_X8_harmOf 0 oj_04 σ) (fun r2 => ?_)
  refine oj_imul hc dX8_wholeBill_24 ?_
  refine oj_iadd hc dX8_wholeBill_25 ?_
  exact hret _ _ _ rfl dX8_wholeBill_26
set_option maxRecDepth 100000 in
theorem c_X8_wholeBill {l : Launch} {D : va_G} {E : ojE} {ad : Nat → Nat}  (σ : ojS) : ∀ (r : Int32), f_X8_wholeBill σ = some r → ojMi (vO_ l D E ad) yX8_wholeBill cX8_wholeBill 1 (some .int) 2 [.ref (ad 0)] σ r σ :=
  ojMi_R (by decide +kernel) rfl .int rfl (Nat.le_of_ble_eq_true rfl) rfl (fun X Q hc hret => wk_X8_wholeBill hc σ hret)

def f_X8_shareOf_27 (a1 : Int32) (a2 : Int32) (a3 : Int32) (a4 : Int32) (a5 : Int32) (a6 : Int32) (a7 : Int32) (σ : ojS) : Option (Int32) :=
  ojFix (fun _ _ _ => none) 600 (fun (rec_27 : Int32 → Int32 → Int32 → Option (Int32)) (v4_27 : Int32) (v5_27 : Int32) (v7_27 : Int32) =>
    if 4 ≤ v7_27 then
      ojChk a1 4 (
        ojNz a3 (
          if v4_27 ≤ v5_27 then
            some (((a2 * (σ 14 a1.toNatClampNeg)) / a3) + 0)
          else
            some (((a2 * (σ 14 a1.toNatClampNeg)) / a3) + 1)))
    else
      ojChk v7_27 4 (
        ojNz a3 (
          ojLet (v4_27 - ((a2 * (σ 14 v7_27.toNatClampNeg)) / a3)) (fun (x5 : Int32) =>
            ojChk v7_27 4 (
              ojNz a3 (
                ojLet (ojRem (a2 * (σ 14 v7_27.toNatClampNeg)) a3) (fun (x7 : Int32) =>
                  if a6 < x7 then
                    ojLet (v5_27 + 1) (fun (x8 : Int32) =>
                      ojLet (v7_27 + 1) (fun (x9 : Int32) =>
                        rec_27 x5 x8 x9))
                  else
                    if x7 = a6 then
                      if a1 ≤ v7_27 then
                        ojLet (v7_27 + 1) (fun (x11 : Int32) =>
                          rec_27 x5 v5_27 x11)
                      else
                        ojLet (v5_27 + 1) (fun (x12 : Int32) =>
                          ojLet (v7_27 + 1) (fun (x13 : Int32) =>
                            rec_27 x5 x12 x13))
                    else
                      ojLet (v7_27 + 1) (fun (x10 : Int32) =>
                        rec_27 x5 v5_27 x10)))))))) a4 a5 a7
set_option maxRecDepth 100000 in
set_option maxHeartbeats 4000000 in
theorem wk_X8_shareOf_27 {l : Launch} {D : va_G} {E : ojE} {ad : Nat → Nat} {X : ojX} {Q : Int32 → State → Prop} (hc : ojC X (vO_ l D E ad) RX8 cX8_shareOf 9 1) (σ : ojS) (hret : ojRr X (vO_ l D E ad) Q cX8_shareOf .int σ) (a1 : Int32) (a2 : Int32) (a3 : Int32) (a4 : Int32) (a5 : Int32) (a6 : Int32) (a7 : Int32) : ojJ X (vO_ l D E ad) Q (f_X8_shareOf_27 a1 a2 a3 a4 a5 a6 a7 σ) σ 27 [(0, .ref (ad 0)), (1, .int a1), (2, .int a2), (3, .int a3), (4, .int a4), (5, .int a5), (6, .int a6), (7, .int a7)] [] := by
  unfold f_X8_shareOf_27
  refine oj_fix (fun (r : Int32 → Int32 → Int32 → Option (Int32)) => ∀ (v4_27 : Int32) (v5_27 : Int32) (v7_27 : Int32), ojJ X (vO_ l D E ad) Q (r v4_27 v5_27 v7_27) σ 27 [(0, .ref (ad 0)), (1, .int a1), (2, .int a2), (3, .int a3), (4, .int v4_27), (5, .int v5_27), (6, .int a6), (7, .int v7_27)] []) _ (fun _ _ _ => oj_none) (fun rec_27 hrec_27 v4_27 v5_27 v7_27 => ?_) 600 a4 a5 a7
  refine oj_iload hc dX8_shareOf_27 7 rfl ?_
  refine oj_iconst hc 4 dX8_shareOf_29 kc_4 ?_
  refine oj_icmp_ge hc 91 dX8_shareOf_30 (by decide) (fun _ => ?_) ?_
  · refine oj_iload_n hc dX8_shareOf_91 rfl 2 rfl ?_
    refine oj_aload_n hc dX8_shareOf_92 rfl 0 rfl ?_
    refine oj_getf hc ff_X8_62 oC_OilWatch rfl dX8_shareOf_93 ?_
    refine oj_iload_n hc dX8_shareOf_96 rfl 1 rfl ?_
    refine oj_iald hc 0 oC_partsOf rfl dX8_shareOf_97 ?_
    refine oj_imul hc dX8_shareOf_98 ?_
    refine oj_iload_n hc dX8_shareOf_99 rfl 3 rfl ?_
    refine oj_nz (fun hz3 => ?_)
    refine oj_idiv hc dX8_shareOf_100 hz3 ?_
    refine oj_iload hc dX8_shareOf_101 5 rfl ?_
    refine oj_iload hc dX8_shareOf_103 4 rfl ?_
    refine oj_icmp_ge hc 112 dX8_shareOf_105 (by decide) (fun _ => ?_) ?_
    · refine oj_iconst hc 0 dX8_shareOf_112 kc_0 ?_
      refine oj_iadd hc dX8_shareOf_113 ?_
      exact hret _ _ _ rfl dX8_shareOf_114
    · refine oj_iconst hc 1 dX8_shareOf_108 kc_1 ?_
      refine oj_goto hc 113 dX8_shareOf_109 (by decide) ?_
      refine oj_iadd hc dX8_shareOf_113 ?_
      exact hret _ _ _ rfl dX8_shareOf_114
  · refine oj_iload hc dX8_shareOf_33 4 rfl ?_
    refine oj_iload_n hc dX8_shareOf_35 rfl 2 rfl ?_
    refine oj_aload_n hc dX8_shareOf_36 rfl 0 rfl ?_
    refine oj_getf hc ff_X8_62 oC_OilWatch rfl dX8_shareOf_37 ?_
    refine oj_iload hc dX8_shareOf_40 7 rfl ?_
    refine oj_iald hc 0 oC_partsOf rfl dX8_shareOf_42 ?_
    refine oj_imul hc dX8_shareOf_43 ?_
    refine oj_iload_n hc dX8_shareOf_44 rfl 3 rfl ?_
    refine oj_nz (fun hz4 => ?_)
    refine oj_idiv hc dX8_shareOf_45 hz4 ?_
    refine oj_isub hc dX8_shareOf_46 ?_
    refine oj_nm (fun x5 => ?_)
    refine oj_istore hc [(0, .ref (ad 0)), (1, .int a1), (2, .int a2), (3, .int a3), (4, .int x5), (5, .int v5_27), (6, .int a6), (7, .int v7_27)] rfl (by decide) dX8_shareOf_47 ?_
    refine oj_iload_n hc dX8_shareOf_49 rfl 2 rfl ?_
    refine oj_aload_n hc dX8_shareOf_50 rfl 0 rfl ?_
    refine oj_getf hc ff_X8_62 oC_OilWatch rfl dX8_shareOf_51 ?_
    refine oj_iload hc dX8_shareOf_54 7 rfl ?_
    refine oj_iald hc 0 oC_partsOf rfl dX8_shareOf_56 ?_
    refine oj_imul hc dX8_shareOf_57 ?_
    refine oj_iload_n hc dX8_shareOf_58 rfl 3 rfl ?_
    refine oj_nz (fun hz6 => ?_)
    refine oj_irem hc dX8_shareOf_59 hz6 ?_
    refine oj_nm (fun x7 => ?_)
    refine oj_istore hc [(0, .ref (ad 0)), (1, .int a1), (2, .int a2), (3, .int a3), (4, .int x5), (5, .int v5_27), (6, .int a6), (7, .int v7_27), (8, .int x7)] rfl (by decide) dX8_shareOf_60 ?_
    refine oj_iload hc dX8_shareOf_62 8 rfl ?_
    refine oj_iload hc dX8_shareOf_64 6 rfl ?_
    refine oj_icmp_gt hc 82 dX8_shareOf_66 (by decide) (fun _ => ?_) ?_
    · refine oj_iinc hc 1 (fun u => [(0, .ref (ad 0)), (1, .int a1), (2, .int a2), (3, .int a3), (4, .int x5), (5, .int u), (6, .int a6), (7, .int v7_27), (8, .int x7)]) 5 rfl kc_1 (fun _ => rfl) (by decide) dX8_shareOf_82 (fun x8 => ?_)
      refine oj_iinc hc 1 (fun u => [(0, .ref (ad 0)), (1, .int a1), (2, .int a2), (3, .int a3), (4, .int x5), (5, .int x8), (6, .int a6), (7, .int u), (8, .int x7)]) 7 rfl kc_1 (fun _ => rfl) (by decide) dX8_shareOf_85 (fun x9 => ?_)
      refine oj_goto hc 27 dX8_shareOf_88 (by decide) ?_
      refine oj_sub [0, 1, 2, 3, 4, 5, 6, 7] rfl ?_
      exact hrec_27 x5 x8 x9
    · refine oj_iload hc dX8_shareOf_69 8 rfl ?_
      refine oj_iload hc dX8_shareOf_71 6 rfl ?_
      refine oj_icmp_ne hc 85 dX8_shareOf_73 (by decide) ?_ (fun _ => ?_)
      · refine oj_iinc hc 1 (fun u => [(0, .ref (ad 0)), (1, .int a1), (2, .int a2), (3, .int a3), (4, .int x5), (5, .int v5_27), (6, .int a6), (7, .int u), (8, .int x7)]) 7 rfl kc_1 (fun _ => rfl) (by decide) dX8_shareOf_85 (fun x10 => ?_)
        refine oj_goto hc 27 dX8_shareOf_88 (by decide) ?_
        refine oj_sub [0, 1, 2, 3, 4, 5, 6, 7] rfl ?_
        exact hrec_27 x5 v5_27 x10
      · refine oj_iload hc dX8_shareOf_76 7 rfl ?_
        refine oj_iload_n hc dX8_shareOf_78 rfl 1 rfl ?_
        refine oj_icmp_ge hc 85 dX8_shareOf_79 (by decide) (fun _ => ?_) ?_
        · refine oj_iinc hc 1 (fun u => [(0, .ref (ad 0)), (1, .int a1), (2, .int a2), (3, .int a3), (4, .int x5), (5, .int v5_27), (6, .int a6), (7, .int u), (8, .int x7)]) 7 rfl kc_1 (fun _ => rfl) (by decide) dX8_shareOf_85 (fun x11 => ?_)
          refine oj_goto hc 27 dX8_shareOf_88 (by decide) ?_
          refine oj_sub [0, 1, 2, 3, 4, 5, 6, 7] rfl ?_
          exact hrec_27 x5 v5_27 x11
        · refine oj_iinc hc 1 (fun u => [(0, .ref (ad 0)), (1, .int a1), (2, .int a2), (3, .int a3), (4, .int x5), (5, .int u), (6, .int a6), (7, .int v7_27), (8, .int x7)]) 5 rfl kc_1 (fun _ => rfl) (by decide) dX8_shareOf_82 (fun x12 => ?_)
          refine oj_iinc hc 1 (fun u => [(0, .ref (ad 0)), (1, .int a1), (2, .int a2), (3, .int a3), (4, .int x5), (5, .int x12), (6, .int a6), (7, .int u), (8, .int x7)]) 7 rfl kc_1 (fun _ => rfl) (by decide) dX8_shareOf_85 (fun x13 => ?_)
          refine oj_goto hc 27 dX8_shareOf_88 (by decide) ?_
          refine oj_sub [0, 1, 2, 3, 4, 5, 6, 7] rfl ?_
          exact hrec_27 x5 x12 x13
def f_X8_shareOf (a1 : Int32) (a2 : Int32) (a3 : Int32) (σ : ojS) : Option (Int32) :=
  if a3 = 0 then
    some 0
  else
    ojChk a1 4 (
      ojNz a3 (
        ojLet (ojRem (a2 * (σ 14 a1.toNatClampNeg)) a3) (fun (x2 : Int32) =>
          f_X8_shareOf_27 a1 a2 a3 a2 0 x2 0 σ)))
set_option maxRecDepth 100000 in
set_option maxHeartbeats 4000000 in
theorem wk_X8_shareOf {l : Launch} {D : va_G} {E : ojE} {ad : Nat → Nat} {X : ojX} {Q : Int32 → State → Prop} (hc : ojC X (vO_ l D E ad) RX8 cX8_shareOf 9 1) (σ : ojS) (hret : ojRr X (vO_ l D E ad) Q cX8_shareOf .int σ) (a1 : Int32) (a2 : Int32) (a3 : Int32) : ojJ X (vO_ l D E ad) Q (f_X8_shareOf a1 a2 a3 σ) σ 0 [(0, .ref (ad 0)), (1, .int a1), (2, .int a2), (3, .int a3)] [] := by
  unfold f_X8_shareOf
  refine oj_iload_n hc dX8_shareOf_0 rfl 3 rfl ?_
  refine oj_if_ne hc 6 dX8_shareOf_1 (by decide) ?_ (fun _ => ?_)
  · refine oj_iload_n hc dX8_shareOf_6 rfl 2 rfl ?_
    refine oj_istore hc [(0, .ref (ad 0)), (1, .int a1), (2, .int a2), (3, .int a3), (4, .int a2)] rfl (by decide) dX8_shareOf_7 ?_
    refine oj_iconst hc 0 dX8_shareOf_9 kc_0 ?_
    refine oj_istore hc [(0, .ref (ad 0)), (1, .int a1), (2, .int a2), (3, .int a3), (4, .int a2), (5, .int 0)] rfl (by decide) dX8_shareOf_10 ?_
    refine oj_iload_n hc dX8_shareOf_12 rfl 2 rfl ?_
    refine oj_aload_n hc dX8_shareOf_13 rfl 0 rfl ?_
    refine oj_getf hc ff_X8_62 oC_OilWatch rfl dX8_shareOf_14 ?_
    refine oj_iload_n hc dX8_shareOf_17 rfl 1 rfl ?_
    refine oj_iald hc 0 oC_partsOf rfl dX8_shareOf_18 ?_
    refine oj_imul hc dX8_shareOf_19 ?_
    refine oj_iload_n hc dX8_shareOf_20 rfl 3 rfl ?_
    refine oj_nz (fun hz1 => ?_)
    refine oj_irem hc dX8_shareOf_21 hz1 ?_
    refine oj_nm (fun x2 => ?_)
    refine oj_istore hc [(0, .ref (ad 0)), (1, .int a1), (2, .int a2), (3, .int a3), (4, .int a2), (5, .int 0), (6, .int x2)] rfl (by decide) dX8_shareOf_22 ?_
    refine oj_iconst hc 0 dX8_shareOf_24 kc_0 ?_
    refine oj_istore hc [(0, .ref (ad 0)), (1, .int a1), (2, .int a2), (3, .int a3), (4, .int a2), (5, .int 0), (6, .int x2), (7, .int 0)] rfl (by decide) dX8_shareOf_25 ?_
    exact wk_X8_shareOf_27 hc _ hret a1 a2 a3 a2 0 x2 0
  · refine oj_iconst hc 0 dX8_shareOf_4 kc_0 ?_
    exact hret _ _ _ rfl dX8_shareOf_5
set_option maxRecDepth 100000 in
theorem c_X8_shareOf {l : Launch} {D : va_G} {E : ojE} {ad : Nat → Nat} (a1 : Int32) (a2 : Int32) (a3 : Int32) (σ : ojS) : ∀ (r : Int32), f_X8_shareOf a1 a2 a3 σ = some r → ojMi (vO_ l D E ad) yX8_shareOf cX8_shareOf 9 (some .int) 1 [.ref (ad 0), .int a1, .int a2, .int a3] σ r σ :=
  ojMi_R (by decide +kernel) rfl .int rfl (Nat.le_of_ble_eq_true rfl) rfl (fun X Q hc hret => wk_X8_shareOf hc σ hret a1 a2 a3)

def f_X8_bill_15 (a1 : Int32) (a2 : Int32) (a3 : Int32) (σ : ojS) : Option (Int32) :=
  ojFix (fun _ _ => none) 600 (fun (rec_15 : Int32 → Int32 → Option (Int32)) (v2_15 : Int32) (v3_15 : Int32) =>
    if 4 ≤ v3_15 then
      ojB1 (f_X8_wholeBill σ) (fun (r2 : Int32) =>
        ojB1 (f_X8_shareOf a1 r2 v2_15 σ) (fun (r3 : Int32) =>
          some r3))
    else
      ojChk v3_15 4 (
        ojLet (v2_15 + (σ 14 v3_15.toNatClampNeg)) (fun (x4 : Int32) =>
          ojLet (v3_15 + 1) (fun (x5 : Int32) =>
            rec_15 x4 x5)))) a2 a3
set_option maxRecDepth 100000 in
set_option maxHeartbeats 4000000 in
theorem wk_X8_bill_15 {l : Launch} {D : va_G} {E : ojE} {ad : Nat → Nat} {X : ojX} {Q : Int32 → State → Prop} (hc : ojC X (vO_ l D E ad) RX8 cX8_bill 4 3) (σ : ojS) (hret : ojRr X (vO_ l D E ad) Q cX8_bill .int σ) (a1 : Int32) (a2 : Int32) (a3 : Int32) : ojJ X (vO_ l D E ad) Q (f_X8_bill_15 a1 a2 a3 σ) σ 15 [(0, .ref (ad 0)), (1, .int a1), (2, .int a2), (3, .int a3)] [] := by
  unfold f_X8_bill_15
  refine oj_fix (fun (r : Int32 → Int32 → Option (Int32)) => ∀ (v2_15 : Int32) (v3_15 : Int32), ojJ X (vO_ l D E ad) Q (r v2_15 v3_15) σ 15 [(0, .ref (ad 0)), (1, .int a1), (2, .int v2_15), (3, .int v3_15)] []) _ (fun _ _ => oj_none) (fun rec_15 hrec_15 v2_15 v3_15 => ?_) 600 a2 a3
  refine oj_iload_n hc dX8_bill_15 rfl 3 rfl ?_
  refine oj_iconst hc 4 dX8_bill_16 kc_4 ?_
  refine oj_icmp_ge hc 35 dX8_bill_17 (by decide) (fun _ => ?_) ?_
  · refine oj_aload_n hc dX8_bill_35 rfl 0 rfl ?_
    refine oj_iload_n hc dX8_bill_36 rfl 1 rfl ?_
    refine oj_aload_n hc dX8_bill_37 rfl 0 rfl ?_
    refine oj_cV1 hc cv_X8_217 (by omega) oC_OilWatch [] [.int a1, .ref (ad 0)] rfl rfl (Nat.le_of_ble_eq_true rfl) dX8_bill_38 (c_X8_wholeBill σ) (fun r2 => ?_)
    refine oj_iload_n hc dX8_bill_41 rfl 2 rfl ?_
    refine oj_cV1 hc cv_X8_221 (by omega) oC_OilWatch [.int a1, .int r2, .int v2_15] [] rfl rfl (Nat.le_of_ble_eq_true rfl) dX8_bill_42 (c_X8_shareOf a1 r2 v2_15 σ) (fun r3 => ?_)
    exact hret _ _ _ rfl dX8_bill_45
  · refine oj_iload_n hc dX8_bill_20 rfl 2 rfl ?_
    refine oj_aload_n hc dX8_bill_21 rfl 0 rfl ?_
    refine oj_getf hc ff_X8_62 oC_OilWatch rfl dX8_bill_22 ?_
    refine oj_iload_n hc dX8_bill_25 rfl 3 rfl ?_
    refine oj_iald hc 0 oC_partsOf rfl dX8_bill_26 ?_
    refine oj_iadd hc dX8_bill_27 ?_
    refine oj_nm (fun x4 => ?_)
    refine oj_istore_n hc [(0, .ref (ad 0)), (1, .int a1), (2, .int x4), (3, .int v3_15)] rfl (by decide) dX8_bill_28 rfl ?_
    refine oj_iinc hc 1 (fun u => [(0, .ref (ad 0)), (1, .int a1), (2, .int x4), (3, .int u)]) 3 rfl kc_1 (fun _ => rfl) (by decide) dX8_bill_29 (fun x5 => ?_)
    refine oj_goto hc 15 dX8_bill_32 (by decide) ?_
    exact hrec_15 x4 x5
def f_X8_bill (a1 : Int32) (σ : ojS) : Option (Int32) :=
  ojB1 (f_X8_isWithin a1 0 3) (fun (r1 : Int32) =>
    if r1 = 0 then
      some (-1)
    else
      f_X8_bill_15 a1 0 0 σ)
set_option maxRecDepth 100000 in
set_option maxHeartbeats 4000000 in
theorem wk_X8_bill {l : Launch} {D : va_G} {E : ojE} {ad : Nat → Nat} {X : ojX} {Q : Int32 → State → Prop} (hc : ojC X (vO_ l D E ad) RX8 cX8_bill 4 3) (σ : ojS) (hret : ojRr X (vO_ l D E ad) Q cX8_bill .int σ) (a1 : Int32) : ojJ X (vO_ l D E ad) Q (f_X8_bill a1 σ) σ 0 [(0, .ref (ad 0)), (1, .int a1)] [] := by
  unfold f_X8_bill
  refine oj_iload_n hc dX8_bill_0 rfl 1 rfl ?_
  refine oj_iconst hc 0 dX8_bill_1 kc_0 ?_
  refine oj_iconst hc 3 dX8_bill_2 kc_3 ?_
  refine oj_cS1 hc cs_X8_70 (by omega) [.int a1, .int 0, .int 3] [] rfl rfl (Nat.le_of_ble_eq_true rfl) dX8_bill_3 (c_X8_isWithin a1 0 3 σ) (fun r1 => ?_)
  refine oj_if_ne hc 11 dX8_bill_6 (by decide) ?_ (fun _ => ?_)
  · refine oj_iconst hc 0 dX8_bill_11 kc_0 ?_
    refine oj_istore_n hc [(0, .ref (ad 0)), (1, .int a1), (2, .int 0)] rfl (by decide) dX8_bill_12 rfl ?_
    refine oj_iconst hc 0 dX8_bill_13 kc_0 ?_
    refine oj_istore_n hc [(0, .ref (ad 0)), (1, .int a1), (2, .int 0), (3, .int 0)] rfl (by decide) dX8_bill_14 rfl ?_
    exact wk_X8_bill_15 hc _ hret a1 0 0
  · refine oj_iconst hc (-1) dX8_bill_9 kc_m1 ?_
    exact hret _ _ _ rfl dX8_bill_10
set_option maxRecDepth 100000 in
theorem c_X8_bill {l : Launch} {D : va_G} {E : ojE} {ad : Nat → Nat} (a1 : Int32) (σ : ojS) : ∀ (r : Int32), f_X8_bill a1 σ = some r → ojMi (vO_ l D E ad) yX8_bill cX8_bill 4 (some .int) 3 [.ref (ad 0), .int a1] σ r σ :=
  ojMi_R (by decide +kernel) rfl .int rfl (Nat.le_of_ble_eq_true rfl) rfl (fun X Q hc hret => wk_X8_bill hc σ hret a1)
