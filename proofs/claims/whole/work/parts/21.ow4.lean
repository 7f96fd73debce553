def f_X8_told (a1 : Int32) (a2 : Int32) (σ : ojS) : Option (Int32) :=
  ojB1 (f_X1_has a1 σ) (fun (r1 : Int32) =>
    if r1 = 0 then
      some (-1)
    else
      ojChk a1 4 (
        if a2 = 0 then
          some (σ (15 + a1.toNatClampNeg) 0)
        else
          if a2 = 1 then
            ojChk a1 4 (
              some (σ (27 + 0) a1.toNatClampNeg))
          else
            if a2 = 2 then
              ojChk a1 4 (
                some ((σ (15 + a1.toNatClampNeg) 4) + (σ (27 + 0) a1.toNatClampNeg)))
            else
              if a2 = 3 then
                if (σ (15 + a1.toNatClampNeg) 5) = 0 then
                  some 0
                else
                  some 1
              else
                some (-1)))
set_option maxRecDepth 100000 in
set_option maxHeartbeats 4000000 in
theorem wk_X8_told {l : Launch} {D : va_G} {E : ojE} {ad : Nat → Nat} {X : ojX} {Q : Int32 → State → Prop} (hc : ojC X (vO_ l D E ad) RX8 cX8_told 4 2) (σ : ojS) (hret : ojRr X (vO_ l D E ad) Q cX8_told .int σ) (a1 : Int32) (a2 : Int32) : ojJ X (vO_ l D E ad) Q (f_X8_told a1 a2 σ) σ 0 [(0, .ref (ad 0)), (1, .int a1), (2, .int a2)] [] := by
  unfold f_X8_told
  refine oj_aload_n hc dX8_told_0 rfl 0 rfl ?_
  refine oj_getf hc ff_X8_33 oC_OilWatch rfl dX8_told_1 ?_
  refine oj_iload_n hc dX8_told_4 rfl 1 rfl ?_
  refine oj_cV1 hc cv_X8_123 (by omega) oC_Fleet [.int a1] [] rfl rfl (Nat.le_of_ble_eq_true rfl) dX8_told_5 (c_X1_has a1 σ) (fun r1 => ?_)
  refine oj_if_ne hc 13 dX8_told_8 (by decide) ?_ (fun _ => ?_)
  · refine oj_aload_n hc dX8_told_13 rfl 0 rfl ?_
    refine oj_getf hc ff_X8_33 oC_OilWatch rfl dX8_told_14 ?_
    refine oj_getf hc ff_X8_126 oC_Fleet rfl dX8_told_17 ?_
    refine oj_iload_n hc dX8_told_20 rfl 1 rfl ?_
    refine oj_aald hc 3 oC_skimmers rfl dX8_told_21 (fun hi2 => ?_)
    refine oj_astore_n hc [(0, .ref (ad 0)), (1, .int a1), (2, .int a2), (3, .ref (ad (15 + a1.toNatClampNeg)))] rfl (by decide) dX8_told_22 rfl ?_
    refine oj_iload_n hc dX8_told_23 rfl 2 rfl ?_
    refine oj_ite (fun hw3 => ?_) (fun hw3 => ?_)
    · refine oj_tableIn hc 56 dX8_told_24 (by rw [hw3]; decide) (by rw [hw3]; decide) (by rw [hw3]; rfl) (by decide) ?_
      refine oj_aload_n hc dX8_told_56 rfl 3 rfl ?_
      refine oj_getf hc ff_X8_136 (oC_Skimmer hi2) rfl dX8_told_57 ?_
      exact hret _ _ _ rfl dX8_told_60
    refine oj_ite (fun hw4 => ?_) (fun hw4 => ?_)
    · refine oj_tableIn hc 61 dX8_told_24 (by rw [hw4]; decide) (by rw [hw4]; decide) (by rw [hw4]; rfl) (by decide) ?_
      refine oj_aload_n hc dX8_told_61 rfl 0 rfl ?_
      refine oj_getf hc ff_X8_40 oC_OilWatch rfl dX8_told_62 ?_
      refine oj_getf hc ff_X8_146 (oC_Slick oj_04) rfl dX8_told_65 ?_
      refine oj_iload_n hc dX8_told_68 rfl 1 rfl ?_
      refine oj_iald hc 0 (oC_loads oj_04) rfl dX8_told_69 ?_
      exact hret _ _ _ rfl dX8_told_70
    refine oj_ite (fun hw5 => ?_) (fun hw5 => ?_)
    · refine oj_tableIn hc 71 dX8_told_24 (by rw [hw5]; decide) (by rw [hw5]; decide) (by rw [hw5]; rfl) (by decide) ?_
      refine oj_aload_n hc dX8_told_71 rfl 3 rfl ?_
      refine oj_getf hc ff_X8_149 (oC_Skimmer hi2) rfl dX8_told_72 ?_
      refine oj_aload_n hc dX8_told_75 rfl 0 rfl ?_
      refine oj_getf hc ff_X8_40 oC_OilWatch rfl dX8_told_76 ?_
      refine oj_getf hc ff_X8_146 (oC_Slick oj_04) rfl dX8_told_79 ?_
      refine oj_iload_n hc dX8_told_82 rfl 1 rfl ?_
      refine oj_iald hc 0 (oC_loads oj_04) rfl dX8_told_83 ?_
      refine oj_iadd hc dX8_told_84 ?_
      exact hret _ _ _ rfl dX8_told_85
    refine oj_ite (fun hw6 => ?_) (fun hw6 => ?_)
    · refine oj_tableIn hc 86 dX8_told_24 (by rw [hw6]; decide) (by rw [hw6]; decide) (by rw [hw6]; rfl) (by decide) ?_
      refine oj_aload_n hc dX8_told_86 rfl 3 rfl ?_
      refine oj_getf hc ff_X8_130 (oC_Skimmer hi2) rfl dX8_told_87 ?_
      refine oj_if_eq hc 97 dX8_told_90 (by decide) (fun _ => ?_) ?_
      · refine oj_iconst hc 0 dX8_told_97 kc_0 ?_
        exact hret _ _ _ rfl dX8_told_98
      · refine oj_iconst hc 1 dX8_told_93 kc_1 ?_
        refine oj_goto hc 98 dX8_told_94 (by decide) ?_
        exact hret _ _ _ rfl dX8_told_98
    refine oj_tableOut hc 99 dX8_told_24 (oj_sw 0 3 4 (by decide) (fun k hk => match k, hk with | 0, _ => hw3 | 1, _ => hw4 | 2, _ => hw5 | 3, _ => hw6 | k + 4, hk => absurd hk (by omega))) (by decide) ?_
    refine oj_iconst hc (-1) dX8_told_99 kc_m1 ?_
    exact hret _ _ _ rfl dX8_told_100
  · refine oj_iconst hc (-1) dX8_told_11 kc_m1 ?_
    exact hret _ _ _ rfl dX8_told_12
set_option maxRecDepth 100000 in
theorem c_X8_told {l : Launch} {D : va_G} {E : ojE} {ad : Nat → Nat} (a1 : Int32) (a2 : Int32) (σ : ojS) : ∀ (r : Int32), f_X8_told a1 a2 σ = some r → ojMi (vO_ l D E ad) yX8_told cX8_told 4 (some .int) 2 [.ref (ad 0), .int a1, .int a2] σ r σ :=
  ojMi_R (by decide +kernel) rfl .int rfl (Nat.le_of_ble_eq_true rfl) rfl (fun X Q hc hret => wk_X8_told hc σ hret a1 a2)

def f_X8_litersAshore_4 (n1 : Nat) (a2 : Int32) (a3 : Int32) (σ : ojS) : Option (Int32) :=
  ojFix (fun _ _ => none) 600 (fun (rec_4 : Int32 → Int32 → Option (Int32)) (v2_4 : Int32) (v3_4 : Int32) =>
    if 96 ≤ v3_4 then
      some v2_4
    else
      ojB1 (f_X2_isSea v3_4 σ) (fun (r1 : Int32) =>
        if r1 = 0 then
          ojChk v3_4 96 (
            ojLet (v2_4 + (σ (23 + n1) v3_4.toNatClampNeg)) (fun (x2 : Int32) =>
              ojLet (v3_4 + 1) (fun (x3 : Int32) =>
                rec_4 x2 x3)))
        else
          ojLet (v2_4 + 0) (fun (x4 : Int32) =>
            ojLet (v3_4 + 1) (fun (x5 : Int32) =>
              rec_4 x4 x5)))) a2 a3
set_option maxRecDepth 100000 in
set_option maxHeartbeats 4000000 in
theorem wk_X8_litersAshore_4 {l : Launch} {D : va_G} {E : ojE} {ad : Nat → Nat} {X : ojX} {Q : Int32 → State → Prop} (hc : ojC X (vO_ l D E ad) RX8 cX8_litersAshore 4 3) (σ : ojS) (hret : ojRr X (vO_ l D E ad) Q cX8_litersAshore .int σ) (n1 : Nat) (h1 : n1 < 4) (a2 : Int32) (a3 : Int32) : ojJ X (vO_ l D E ad) Q (f_X8_litersAshore_4 n1 a2 a3 σ) σ 4 [(0, .ref (ad 0)), (1, .ref (ad (19 + n1))), (2, .int a2), (3, .int a3)] [] := by
  unfold f_X8_litersAshore_4
  refine oj_fix (fun (r : Int32 → Int32 → Option (Int32)) => ∀ (v2_4 : Int32) (v3_4 : Int32), ojJ X (vO_ l D E ad) Q (r v2_4 v3_4) σ 4 [(0, .ref (ad 0)), (1, .ref (ad (19 + n1))), (2, .int v2_4), (3, .int v3_4)] []) _ (fun _ _ => oj_none) (fun rec_4 hrec_4 v2_4 v3_4 => ?_) 600 a2 a3
  refine oj_iload_n hc dX8_litersAshore_4 rfl 3 rfl ?_
  refine oj_bipush hc 96 dX8_litersAshore_5 kb_96 ?_
  refine oj_icmp_ge hc 40 dX8_litersAshore_7 (by decide) (fun _ => ?_) ?_
  · refine oj_iload_n hc dX8_litersAshore_40 rfl 2 rfl ?_
    exact hret _ _ _ rfl dX8_litersAshore_41
  · refine oj_iload_n hc dX8_litersAshore_10 rfl 2 rfl ?_
    refine oj_aload_n hc dX8_litersAshore_11 rfl 0 rfl ?_
    refine oj_getf hc ff_X8_12 oC_OilWatch rfl dX8_litersAshore_12 ?_
    refine oj_iload_n hc dX8_litersAshore_15 rfl 3 rfl ?_
    refine oj_cV1 hc cv_X8_97 (by omega) oC_Net [.int v3_4] [.int v2_4] rfl rfl (Nat.le_of_ble_eq_true rfl) dX8_litersAshore_16 (c_X2_isSea v3_4 σ) (fun r1 => ?_)
    refine oj_if_eq hc 26 dX8_litersAshore_19 (by decide) (fun _ => ?_) ?_
    · refine oj_aload_n hc dX8_litersAshore_26 rfl 1 rfl ?_
      refine oj_getf hc ff_X8_78 (oC_Slick h1) rfl dX8_litersAshore_27 ?_
      refine oj_iload_n hc dX8_litersAshore_30 rfl 3 rfl ?_
      refine oj_iald hc 0 (oC_liters h1) rfl dX8_litersAshore_31 ?_
      refine oj_iadd hc dX8_litersAshore_32 ?_
      refine oj_nm (fun x2 => ?_)
      refine oj_istore_n hc [(0, .ref (ad 0)), (1, .ref (ad (19 + n1))), (2, .int x2), (3, .int v3_4)] rfl (by decide) dX8_litersAshore_33 rfl ?_
      refine oj_iinc hc 1 (fun u => [(0, .ref (ad 0)), (1, .ref (ad (19 + n1))), (2, .int x2), (3, .int u)]) 3 rfl kc_1 (fun _ => rfl) (by decide) dX8_litersAshore_34 (fun x3 => ?_)
      refine oj_goto hc 4 dX8_litersAshore_37 (by decide) ?_
      exact hrec_4 x2 x3
    · refine oj_iconst hc 0 dX8_litersAshore_22 kc_0 ?_
      refine oj_goto hc 32 dX8_litersAshore_23 (by decide) ?_
      refine oj_iadd hc dX8_litersAshore_32 ?_
      refine oj_nm (fun x4 => ?_)
      refine oj_istore_n hc [(0, .ref (ad 0)), (1, .ref (ad (19 + n1))), (2, .int x4), (3, .int v3_4)] rfl (by decide) dX8_litersAshore_33 rfl ?_
      refine oj_iinc hc 1 (fun u => [(0, .ref (ad 0)), (1, .ref (ad (19 + n1))), (2, .int x4), (3, .int u)]) 3 rfl kc_1 (fun _ => rfl) (by decide) dX8_litersAshore_34 (fun x5 => ?_)
      refine oj_goto hc 4 dX8_litersAshore_37 (by decide) ?_
      exact hrec_4 x4 x5
def f_X8_litersAshore (n1 : Nat) (σ : ojS) : Option (Int32) :=
  f_X8_litersAshore_4 n1 0 0 σ
set_option maxRecDepth 100000 in
set_option maxHeartbeats 4000000 in
theorem wk_X8_litersAshore {l : Launch} {D : va_G} {E : ojE} {ad : Nat → Nat} {X : ojX} {Q : Int32 → State → Prop} (hc : ojC X (vO_ l D E ad) RX8 cX8_litersAshore 4 3) (σ : ojS) (hret : ojRr X (vO_ l D E ad) Q cX8_litersAshore .int σ) (n1 : Nat) (h1 : n1 < 4) : ojJ X (vO_ l D E ad) Q (f_X8_litersAshore n1 σ) σ 0 [(0, .ref (ad 0)), (1, .ref (ad (19 + n1)))] [] := by
  unfold f_X8_litersAshore
  refine oj_iconst hc 0 dX8_litersAshore_0 kc_0 ?_
  refine oj_istore_n hc [(0, .ref (ad 0)), (1, .ref (ad (19 + n1))), (2, .int 0)] rfl (by decide) dX8_litersAshore_1 rfl ?_
  refine oj_iconst hc 0 dX8_litersAshore_2 kc_0 ?_
  refine oj_istore_n hc [(0, .ref (ad 0)), (1, .ref (ad (19 + n1))), (2, .int 0), (3, .int 0)] rfl (by decide) dX8_litersAshore_3 rfl ?_
  exact wk_X8_litersAshore_4 hc _ hret n1 h1 0 0
set_option maxRecDepth 100000 in
theorem c_X8_litersAshore {l : Launch} {D : va_G} {E : ojE} {ad : Nat → Nat} (n1 : Nat) (h1 : n1 < 4) (σ : ojS) : ∀ (r : Int32), f_X8_litersAshore n1 σ = some r → ojMi (vO_ l D E ad) yX8_litersAshore cX8_litersAshore 4 (some .int) 3 [.ref (ad 0), .ref (ad (19 + n1))] σ r σ :=
  ojMi_R (by decide +kernel) rfl .int rfl (Nat.le_of_ble_eq_true rfl) rfl (fun X Q hc hret => wk_X8_litersAshore hc σ hret n1 h1)

def f_X8_count (a1 : Int32) (σ : ojS) : Option (Int32) :=
  if a1 = 0 then
    some (σ 0 10)
  else
    if a1 = 1 then
      some (σ 0 11)
    else
      if a1 = 2 then
        ojB1 (f_X8_litersAfloat 0 σ) (fun (r1 : Int32) =>
          some r1)
      else
        if a1 = 3 then
          some (σ (19 + 0) 2)
        else
          if a1 = 4 then
            ojB1 (f_X8_litersAshore 0 σ) (fun (r2 : Int32) =>
              some r2)
          else
            if a1 = 5 then
              some (σ (19 + 0) 3)
            else
              if a1 = 6 then
                ojB1 (f_X8_litersSkimmed σ) (fun (r3 : Int32) =>
                  some r3)
              else
                if a1 = 7 then
                  ojB1 (f_X8_harmOf 0 σ) (fun (r4 : Int32) =>
                    some r4)
                else
                  if a1 = 8 then
                    ojB1 (f_X8_wholeBill σ) (fun (r5 : Int32) =>
                      some r5)
                  else
                    if a1 = 9 then
                      some (σ 3 3)
                    else
                      if a1 = 10 then
                        some (σ 0 9)
                      else
                        some (-1)
set_option maxRecDepth 100000 in
set_option maxHeartbeats 4000000 in
theorem wk_X8_count {l : Launch} {D : va_G} {E : ojE} {ad : Nat → Nat} {X : ojX} {Q : Int32 → State → Prop} (hc : ojC X (vO_ l D E ad) RX8 cX8_count 2 4) (σ : ojS) (hret : ojRr X (vO_ l D E ad) Q cX8_count .int σ) (a1 : Int32) : ojJ X (vO_ l D E ad) Q (f_X8_count a1 σ) σ 0 [(0, .ref (ad 0)), (1, .int a1)] [] := by
  unfold f_X8_count
  refine oj_iload_n hc dX8_count_0 rfl 1 rfl ?_
  refine oj_ite (fun hw6 => ?_) (fun hw6 => ?_)
  · refine oj_tableIn hc 60 dX8_count_1 (by rw [hw6]; decide) (by rw [hw6]; decide) (by rw [hw6]; rfl) (by decide) ?_
    refine oj_aload_n hc dX8_count_60 rfl 0 rfl ?_
    refine oj_getf hc ff_X8_74 oC_OilWatch rfl dX8_count_61 ?_
    exact hret _ _ _ rfl dX8_count_64
  refine oj_ite (fun hw7 => ?_) (fun hw7 => ?_)
  · refine oj_tableIn hc 65 dX8_count_1 (by rw [hw7]; decide) (by rw [hw7]; decide) (by rw [hw7]; rfl) (by decide) ?_
    refine oj_aload_n hc dX8_count_65 rfl 0 rfl ?_
    refine oj_getf hc ff_X8_112 oC_OilWatch rfl dX8_count_66 ?_
    exact hret _ _ _ rfl dX8_count_69
  refine oj_ite (fun hw8 => ?_) (fun hw8 => ?_)
  · refine oj_tableIn hc 70 dX8_count_1 (by rw [hw8]; decide) (by rw [hw8]; decide) (by rw [hw8]; rfl) (by decide) ?_
    refine oj_aload_n hc dX8_count_70 rfl 0 rfl ?_
    refine oj_aload_n hc dX8_count_71 rfl 0 rfl ?_
    refine oj_getf hc ff_X8_40 oC_OilWatch rfl dX8_count_72 ?_
    refine oj_cV1 hc cv_X8_224 (by omega) oC_OilWatch [.ref (ad (19 + 0))] [] rfl rfl (Nat.le_of_ble_eq_true rfl) dX8_count_75 (c_X8_litersAfloat 0 oj_04 σ) (fun r1 => ?_)
    exact hret _ _ _ rfl dX8_count_78
  refine oj_ite (fun hw9 => ?_) (fun hw9 => ?_)
  · refine oj_tableIn hc 79 dX8_count_1 (by rw [hw9]; decide) (by rw [hw9]; decide) (by rw [hw9]; rfl) (by decide) ?_
    refine oj_aload_n hc dX8_count_79 rfl 0 rfl ?_
    refine oj_getf hc ff_X8_40 oC_OilWatch rfl dX8_count_80 ?_
    refine oj_getf hc ff_X8_228 (oC_Slick oj_04) rfl dX8_count_83 ?_
    exact hret _ _ _ rfl dX8_count_86
  refine oj_ite (fun hw10 => ?_) (fun hw10 => ?_)
  · refine oj_tableIn hc 87 dX8_count_1 (by rw [hw10]; decide) (by rw [hw10]; decide) (by rw [hw10]; rfl) (by decide) ?_
    refine oj_aload_n hc dX8_count_87 rfl 0 rfl ?_
    refine oj_aload_n hc dX8_count_88 rfl 0 rfl ?_
    refine oj_getf hc ff_X8_40 oC_OilWatch rfl dX8_count_89 ?_
    refine oj_cV1 hc cv_X8_231 (by omega) oC_OilWatch [.ref (ad (19 + 0))] [] rfl rfl (Nat.le_of_ble_eq_true rfl) dX8_count_92 (c_X8_litersAshore 0 oj_04 σ) (fun r2 => ?_)
    exact hret _ _ _ rfl dX8_count_95
  refine oj_ite (fun hw11 => ?_) (fun hw11 => ?_)
  · refine oj_tableIn hc 96 dX8_count_1 (by rw [hw11]; decide) (by rw [hw11]; decide) (by rw [hw11]; rfl) (by decide) ?_
    refine oj_aload_n hc dX8_count_96 rfl 0 rfl ?_
    refine oj_getf hc ff_X8_40 oC_OilWatch rfl dX8_count_97 ?_
    refine oj_getf hc ff_X8_234 (oC_Slick oj_04) rfl dX8_count_100 ?_
    exact hret _ _ _ rfl dX8_count_103
  refine oj_ite (fun hw12 => ?_) (fun hw12 => ?_)
  · refine oj_tableIn hc 104 dX8_count_1 (by rw [hw12]; decide) (by rw [hw12]; decide) (by rw [hw12]; rfl) (by decide) ?_
    refine oj_aload_n hc dX8_count_104 rfl 0 rfl ?_
    refine oj_cV1 hc cv_X8_237 (by omega) oC_OilWatch [] [] rfl rfl (Nat.le_of_ble_eq_true rfl) dX8_count_105 (c_X8_litersSkimmed σ) (fun r3 => ?_)
    exact hret _ _ _ rfl dX8_count_108
  refine oj_ite (fun hw13 => ?_) (fun hw13 => ?_)
  · refine oj_tableIn hc 109 dX8_count_1 (by rw [hw13]; decide) (by rw [hw13]; decide) (by rw [hw13]; rfl) (by decide) ?_
    refine oj_aload_n hc dX8_count_109 rfl 0 rfl ?_
    refine oj_aload_n hc dX8_count_110 rfl 0 rfl ?_
    refine oj_getf hc ff_X8_40 oC_OilWatch rfl dX8_count_111 ?_
    refine oj_cV1 hc cv_X8_240 (by omega) oC_OilWatch [.ref (ad (19 + 0))] [] rfl rfl (Nat.le_of_ble_eq_true rfl) dX8_count_114 (c_X8_harmOf 0 oj_04 σ) (fun r4 => ?_)
    exact hret _ _ _ rfl dX8_count_117
  refine oj_ite (fun hw14 => ?_) (fun hw14 => ?_)
  · refine oj_tableIn hc 118 dX8_count_1 (by rw [hw14]; decide) (by rw [hw14]; decide) (by rw [hw14]; rfl) (by decide) ?_
    refine oj_aload_n hc dX8_count_118 rfl 0 rfl ?_
    refine oj_cV1 hc cv_X8_217 (by omega) oC_OilWatch [] [] rfl rfl (Nat.le_of_ble_eq_true rfl) dX8_count_119 (c_X8_wholeBill σ) (fun r5 => ?_)
    exact hret _ _ _ rfl dX8_count_122
  refine oj_ite (fun hw15 => ?_) (fun hw15 => ?_)
  · refine oj_tableIn hc 123 dX8_count_1 (by rw [hw15]; decide) (by rw [hw15]; decide) (by rw [hw15]; rfl) (by decide) ?_
    refine oj_aload_n hc dX8_count_123 rfl 0 rfl ?_
    refine oj_getf hc ff_X8_19 oC_OilWatch rfl dX8_count_124 ?_
    refine oj_getf hc ff_X8_243 oC_Booms rfl dX8_count_127 ?_
    exact hret _ _ _ rfl dX8_count_130
  refine oj_ite (fun hw16 => ?_) (fun hw16 => ?_)
  · refine oj_tableIn hc 131 dX8_count_1 (by rw [hw16]; decide) (by rw [hw16]; decide) (by rw [hw16]; rfl) (by decide) ?_
    refine oj_aload_n hc dX8_count_131 rfl 0 rfl ?_
    refine oj_getf hc ff_X8_161 oC_OilWatch rfl dX8_count_132 ?_
    exact hret _ _ _ rfl dX8_count_135
  refine oj_tableOut hc 136 dX8_count_1 (oj_sw 0 10 11 (by decide) (fun k hk => match k, hk with | 0, _ => hw6 | 1, _ => hw7 | 2, _ => hw8 | 3, _ => hw9 | 4, _ => hw10 | 5, _ => hw11 | 6, _ => hw12 | 7, _ => hw13 | 8, _ => hw14 | 9, _ => hw15 | 10, _ => hw16 | k + 11, hk => absurd hk (by omega))) (by decide) ?_
  refine oj_iconst hc (-1) dX8_count_136 kc_m1 ?_
  exact hret _ _ _ rfl dX8_count_137
set_option maxRecDepth 100000 in
theorem c_X8_count {l : Launch} {D : va_G} {E : ojE} {ad : Nat → Nat} (a1 : Int32) (σ : ojS) : ∀ (r : Int32), f_X8_count a1 σ = some r → ojMi (vO_ l D E ad) yX8_count cX8_count 2 (some .int) 4 [.ref (ad 0), .int a1] σ r σ :=
  ojMi_R (by decide +kernel) rfl .int rfl (Nat.le_of_ble_eq_true rfl) rfl (fun X Q hc hret => wk_X8_count hc σ hret a1)
