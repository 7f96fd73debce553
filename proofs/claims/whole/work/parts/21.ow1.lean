def f_X8_isWithin (a0 : Int32) (a1 : Int32) (a2 : Int32) : Option (Int32) :=
  if a0 < a1 then
    some 0
  else
    if a2 < a0 then
      some 0
    else
      some 1
set_option maxRecDepth 100000 in
set_option maxHeartbeats 4000000 in
theorem wk_X8_isWithin {l : Launch} {D : va_G} {E : ojE} {ad : Nat → Nat} {X : ojX} {Q : Int32 → State → Prop} (hc : ojC X (vO_ l D E ad) RX8 cX8_isWithin 3 1) (σ : ojS) (hret : ojRr X (vO_ l D E ad) Q cX8_isWithin .boolean σ) (a0 : Int32) (a1 : Int32) (a2 : Int32) : ojJ X (vO_ l D E ad) Q (f_X8_isWithin a0 a1 a2) σ 0 [(0, .int a0), (1, .int a1), (2, .int a2)] [] := by
  unfold f_X8_isWithin
  refine oj_iload_n hc dX8_isWithin_0 rfl 0 rfl ?_
  refine oj_iload_n hc dX8_isWithin_1 rfl 1 rfl ?_
  refine oj_icmp_lt hc 14 dX8_isWithin_2 (by decide) (fun _ => ?_) ?_
  · refine oj_iconst hc 0 dX8_isWithin_14 kc_0 ?_
    exact hret _ _ _ rfl dX8_isWithin_15
  · refine oj_iload_n hc dX8_isWithin_5 rfl 0 rfl ?_
    refine oj_iload_n hc dX8_isWithin_6 rfl 2 rfl ?_
    refine oj_icmp_gt hc 14 dX8_isWithin_7 (by decide) (fun _ => ?_) ?_
    · refine oj_iconst hc 0 dX8_isWithin_14 kc_0 ?_
      exact hret _ _ _ rfl dX8_isWithin_15
    · refine oj_iconst hc 1 dX8_isWithin_10 kc_1 ?_
      refine oj_goto hc 15 dX8_isWithin_11 (by decide) ?_
      exact hret _ _ _ rfl dX8_isWithin_15
set_option maxRecDepth 100000 in
theorem c_X8_isWithin {l : Launch} {D : va_G} {E : ojE} {ad : Nat → Nat} (a0 : Int32) (a1 : Int32) (a2 : Int32) (σ : ojS) : ∀ (r : Int32), f_X8_isWithin a0 a1 a2 = some r → ojMi (vO_ l D E ad) yX8_isWithin cX8_isWithin 3 (some .boolean) 1 [.int a0, .int a1, .int a2] σ r σ :=
  ojMi_R (by decide +kernel) rfl .boolean rfl (Nat.le_of_ble_eq_true rfl) rfl (fun X Q hc hret => wk_X8_isWithin hc σ hret a0 a1 a2)

def f_X8_shipLeftAt_2 (a1 : Int32) (a2 : Int32) (σ : ojS) : Option (Int32) :=
  ojFix (fun _ => none) 600 (fun (rec_2 : Int32 → Option (Int32)) (v2_2 : Int32) =>
    if (σ 0 9) ≤ v2_2 then
      some 0
    else
      ojChk v2_2 8 (
        if (σ (31 + v2_2.toNatClampNeg) 1) = a1 then
          some 1
        else
          ojLet (v2_2 + 1) (fun (x2 : Int32) =>
            rec_2 x2))) a2
set_option maxRecDepth 100000 in
set_option maxHeartbeats 4000000 in
theorem wk_X8_shipLeftAt_2 {l : Launch} {D : va_G} {E : ojE} {ad : Nat → Nat} {X : ojX} {Q : Int32 → State → Prop} (hc : ojC X (vO_ l D E ad) RX8 cX8_shipLeftAt 3 1) (σ : ojS) (hret : ojRr X (vO_ l D E ad) Q cX8_shipLeftAt .boolean σ) (a1 : Int32) (a2 : Int32) : ojJ X (vO_ l D E ad) Q (f_X8_shipLeftAt_2 a1 a2 σ) σ 2 [(0, .ref (ad 0)), (1, .int a1), (2, .int a2)] [] := by
  unfold f_X8_shipLeftAt_2
  refine oj_fix (fun (r : Int32 → Option (Int32)) => ∀ (v2_2 : Int32), ojJ X (vO_ l D E ad) Q (r v2_2) σ 2 [(0, .ref (ad 0)), (1, .int a1), (2, .int v2_2)] []) _ (fun _ => oj_none) (fun rec_2 hrec_2 v2_2 => ?_) 600 a2
  refine oj_iload_n hc dX8_shipLeftAt_2 rfl 2 rfl ?_
  refine oj_aload_n hc dX8_shipLeftAt_3 rfl 0 rfl ?_
  refine oj_getf hc ff_X8_161 oC_OilWatch rfl dX8_shipLeftAt_4 ?_
  refine oj_icmp_ge hc 31 dX8_shipLeftAt_7 (by decide) (fun _ => ?_) ?_
  · refine oj_iconst hc 0 dX8_shipLeftAt_31 kc_0 ?_
    exact hret _ _ _ rfl dX8_shipLeftAt_32
  · refine oj_aload_n hc dX8_shipLeftAt_10 rfl 0 rfl ?_
    refine oj_getf hc ff_X8_57 oC_OilWatch rfl dX8_shipLeftAt_11 ?_
    refine oj_iload_n hc dX8_shipLeftAt_14 rfl 2 rfl ?_
    refine oj_aald hc 2 oC_ships rfl dX8_shipLeftAt_15 (fun hi1 => ?_)
    refine oj_getf hc ff_X8_205 (oC_Ship hi1) rfl dX8_shipLeftAt_16 ?_
    refine oj_iload_n hc dX8_shipLeftAt_19 rfl 1 rfl ?_
    refine oj_icmp_ne hc 25 dX8_shipLeftAt_20 (by decide) ?_ (fun _ => ?_)
    · refine oj_iinc hc 1 (fun u => [(0, .ref (ad 0)), (1, .int a1), (2, .int u)]) 2 rfl kc_1 (fun _ => rfl) (by decide) dX8_shipLeftAt_25 (fun x2 => ?_)
      refine oj_goto hc 2 dX8_shipLeftAt_28 (by decide) ?_
      exact hrec_2 x2
    · refine oj_iconst hc 1 dX8_shipLeftAt_23 kc_1 ?_
      exact hret _ _ _ rfl dX8_shipLeftAt_24
def f_X8_shipLeftAt (a1 : Int32) (σ : ojS) : Option (Int32) :=
  f_X8_shipLeftAt_2 a1 0 σ
set_option maxRecDepth 100000 in
set_option maxHeartbeats 4000000 in
theorem wk_X8_shipLeftAt {l : Launch} {D : va_G} {E : ojE} {ad : Nat → Nat} {X : ojX} {Q : Int32 → State → Prop} (hc : ojC X (vO_ l D E ad) RX8 cX8_shipLeftAt 3 1) (σ : ojS) (hret : ojRr X (vO_ l D E ad) Q cX8_shipLeftAt .boolean σ) (a1 : Int32) : ojJ X (vO_ l D E ad) Q (f_X8_shipLeftAt a1 σ) σ 0 [(0, .ref (ad 0)), (1, .int a1)] [] := by
  unfold f_X8_shipLeftAt
  refine oj_iconst hc 0 dX8_shipLeftAt_0 kc_0 ?_
  refine oj_istore_n hc [(0, .ref (ad 0)), (1, .int a1), (2, .int 0)] rfl (by decide) dX8_shipLeftAt_1 rfl ?_
  exact wk_X8_shipLeftAt_2 hc _ hret a1 0
set_option maxRecDepth 100000 in
theorem c_X8_shipLeftAt {l : Launch} {D : va_G} {E : ojE} {ad : Nat → Nat} (a1 : Int32) (σ : ojS) : ∀ (r : Int32), f_X8_shipLeftAt a1 σ = some r → ojMi (vO_ l D E ad) yX8_shipLeftAt cX8_shipLeftAt 3 (some .boolean) 1 [.ref (ad 0), .int a1] σ r σ :=
  ojMi_R (by decide +kernel) rfl .boolean rfl (Nat.le_of_ble_eq_true rfl) rfl (fun X Q hc hret => wk_X8_shipLeftAt hc σ hret a1)

def f_X8_shore (a1 : Int32) (a2 : Int32) (σ : ojS) : Option (Int32 × ojS) :=
  ojB1 (f_X2_isCell a1) (fun (r1 : Int32) =>
    if r1 = 0 then
      some (0, σ)
    else
      ojB1 (f_X8_isWithin a2 0 9) (fun (r2 : Int32) =>
        if r2 = 0 then
          some (0, σ)
        else
          if (σ 0 10) = 0 then
            ojChk a1 96 (
              if 0 < (σ (23 + 0) a1.toNatClampNeg) then
                some (0, σ)
              else
                ojB1 (f_X1_isAt a1 σ) (fun (r3 : Int32) =>
                  if r3 = 0 then
                    ojB1 (f_X0_endAt a1 σ) (fun (r4 : Int32) =>
                      if r4 = 0 then
                        ojB1 (f_X8_shipLeftAt a1 σ) (fun (r5 : Int32) =>
                          if r5 = 0 then
                            ojChk a1 96 (ojLet (ojU σ 2 a1.toNatClampNeg a2) (fun (σ6 : ojS) =>
                              some (1, σ6)))
                          else
                            some (0, σ))
                      else
                        some (0, σ))
                  else
                    some (0, σ)))
          else
            some (0, σ)))
set_option maxRecDepth 100000 in
set_option maxHeartbeats 4000000 in
theorem wk_X8_shore {l : Launch} {D : va_G} {E : ojE} {ad : Nat → Nat} {X : ojX} {Q : Int32 × ojS → State → Prop} (hc : ojC X (vO_ l D E ad) RX8 cX8_shore 3 2) (hret : ojRi X (vO_ l D E ad) Q cX8_shore .boolean) (a1 : Int32) (a2 : Int32) (σ : ojS) : ojJ X (vO_ l D E ad) Q (f_X8_shore a1 a2 σ) σ 0 [(0, .ref (ad 0)), (1, .int a1), (2, .int a2)] [] := by
  unfold f_X8_shore
  refine oj_iload_n hc dX8_shore_0 rfl 1 rfl ?_
  refine oj_cS1 hc cs_X8_66 (by omega) [.int a1] [] rfl rfl (Nat.le_of_ble_eq_true rfl) dX8_shore_1 (c_X2_isCell a1 σ) (fun r1 => ?_)
  refine oj_if_eq hc 24 dX8_shore_4 (by decide) (fun _ => ?_) ?_
  · refine oj_iconst hc 0 dX8_shore_24 kc_0 ?_
    exact hret _ _ _ _ rfl dX8_shore_25
  · refine oj_iload_n hc dX8_shore_7 rfl 2 rfl ?_
    refine oj_iconst hc 0 dX8_shore_8 kc_0 ?_
    refine oj_bipush hc 9 dX8_shore_9 kb_9 ?_
    refine oj_cS1 hc cs_X8_70 (by omega) [.int a2, .int 0, .int 9] [] rfl rfl (Nat.le_of_ble_eq_true rfl) dX8_shore_11 (c_X8_isWithin a2 0 9 σ) (fun r2 => ?_)
    refine oj_if_eq hc 24 dX8_shore_14 (by decide) (fun _ => ?_) ?_
    · refine oj_iconst hc 0 dX8_shore_24 kc_0 ?_
      exact hret _ _ _ _ rfl dX8_shore_25
    · refine oj_aload_n hc dX8_shore_17 rfl 0 rfl ?_
      refine oj_getf hc ff_X8_74 oC_OilWatch rfl dX8_shore_18 ?_
      refine oj_if_eq hc 26 dX8_shore_21 (by decide) (fun _ => ?_) ?_
      · refine oj_aload_n hc dX8_shore_26 rfl 0 rfl ?_
        refine oj_getf hc ff_X8_40 oC_OilWatch rfl dX8_shore_27 ?_
        refine oj_getf hc ff_X8_78 (oC_Slick oj_04) rfl dX8_shore_30 ?_
        refine oj_iload_n hc dX8_shore_33 rfl 1 rfl ?_
        refine oj_iald hc 0 (oC_liters oj_04) rfl dX8_shore_34 ?_
        refine oj_if_gt hc 68 dX8_shore_35 (by decide) (fun _ => ?_) ?_
        · refine oj_iconst hc 0 dX8_shore_68 kc_0 ?_
          exact hret _ _ _ _ rfl dX8_shore_69
        · refine oj_aload_n hc dX8_shore_38 rfl 0 rfl ?_
          refine oj_getf hc ff_X8_33 oC_OilWatch rfl dX8_shore_39 ?_
          refine oj_iload_n hc dX8_shore_42 rfl 1 rfl ?_
          refine oj_cV1 hc cv_X8_81 (by omega) oC_Fleet [.int a1] [] rfl rfl (Nat.le_of_ble_eq_true rfl) dX8_shore_43 (c_X1_isAt a1 σ) (fun r3 => ?_)
          refine oj_if_ne hc 68 dX8_shore_46 (by decide) ?_ (fun _ => ?_)
          · refine oj_iconst hc 0 dX8_shore_68 kc_0 ?_
            exact hret _ _ _ _ rfl dX8_shore_69
          · refine oj_aload_n hc dX8_shore_49 rfl 0 rfl ?_
            refine oj_getf hc ff_X8_19 oC_OilWatch rfl dX8_shore_50 ?_
            refine oj_iload_n hc dX8_shore_53 rfl 1 rfl ?_
            refine oj_cV1 hc cv_X8_84 (by omega) oC_Booms [.int a1] [] rfl rfl (Nat.le_of_ble_eq_true rfl) dX8_shore_54 (c_X0_endAt a1 σ) (fun r4 => ?_)
            refine oj_if_ne hc 68 dX8_shore_57 (by decide) ?_ (fun _ => ?_)
            · refine oj_iconst hc 0 dX8_shore_68 kc_0 ?_
              exact hret _ _ _ _ rfl dX8_shore_69
            · refine oj_aload_n hc dX8_shore_60 rfl 0 rfl ?_
              refine oj_iload_n hc dX8_shore_61 rfl 1 rfl ?_
              refine oj_cV1 hc cv_X8_87 (by omega) oC_OilWatch [.int a1] [] rfl rfl (Nat.le_of_ble_eq_true rfl) dX8_shore_62 (c_X8_shipLeftAt a1 σ) (fun r5 => ?_)
              refine oj_if_eq hc 70 dX8_shore_65 (by decide) (fun _ => ?_) ?_
              · refine oj_aload_n hc dX8_shore_70 rfl 0 rfl ?_
                refine oj_getf hc ff_X8_12 oC_OilWatch rfl dX8_shore_71 ?_
                refine oj_getf hc ff_X8_90 oC_Net rfl dX8_shore_74 ?_
                refine oj_iload_n hc dX8_shore_77 rfl 1 rfl ?_
                refine oj_iload_n hc dX8_shore_78 rfl 2 rfl ?_
                refine oj_iast hc 0 oC_ranks oC_ranks_s rfl rfl dX8_shore_79 (fun σ6 => ?_)
                refine oj_iconst hc 1 dX8_shore_80 kc_1 ?_
                exact hret _ _ _ _ rfl dX8_shore_81
              · refine oj_iconst hc 0 dX8_shore_68 kc_0 ?_
                exact hret _ _ _ _ rfl dX8_shore_69
      · refine oj_iconst hc 0 dX8_shore_24 kc_0 ?_
        exact hret _ _ _ _ rfl dX8_shore_25
set_option maxRecDepth 100000 in
theorem c_X8_shore {l : Launch} {D : va_G} {E : ojE} {ad : Nat → Nat} (a1 : Int32) (a2 : Int32) (σ : ojS) : ∀ (r : Int32) (σ1 : ojS), f_X8_shore a1 a2 σ = some (r, σ1) → ojMi (vO_ l D E ad) yX8_shore cX8_shore 3 (some .boolean) 2 [.ref (ad 0), .int a1, .int a2] σ r σ1 :=
  ojMi_W (by decide +kernel) rfl .boolean rfl (Nat.le_of_ble_eq_true rfl) rfl (fun X Q hc hret => wk_X8_shore hc hret a1 a2 σ)

def f_X8_weather (a1 : Int32) (a2 : Int32) (a3 : Int32) (a4 : Int32) (σ : ojS) : Option (Int32 × ojS) :=
  ojB1 (f_X8_isWithin a1 0 2) (fun (r1 : Int32) =>
    if r1 = 0 then
      some (0, σ)
    else
      ojB1 (f_X8_isWithin a2 (σ 0 10) 500) (fun (r2 : Int32) =>
        if r2 = 0 then
          some (0, σ)
        else
          ojB1 (f_X8_isWithin a3 0 4) (fun (r3 : Int32) =>
            if r3 = 0 then
              some (0, σ)
            else
              ojB1 (f_X8_isWithin a4 0 9) (fun (r4 : Int32) =>
                if r4 = 0 then
                  some (0, σ)
                else
                  ojBv (f_X6_tell a1 a2 a3 a4 σ) (fun (σ6 : ojS) =>
                    some (1, σ6))))))
set_option maxRecDepth 100000 in
set_option maxHeartbeats 4000000 in
theorem wk_X8_weather {l : Launch} {D : va_G} {E : ojE} {ad : Nat → Nat} {X : ojX} {Q : Int32 × ojS → State → Prop} (hc : ojC X (vO_ l D E ad) RX8 cX8_weather 5 2) (hret : ojRi X (vO_ l D E ad) Q cX8_weather .boolean) (a1 : Int32) (a2 : Int32) (a3 : Int32) (a4 : Int32) (σ : ojS) : ojJ X (vO_ l D E ad) Q (f_X8_weather a1 a2 a3 a4 σ) σ 0 [(0, .ref (ad 0)), (1, .int a1), (2, .int a2), (3, .int a3), (4, .int a4)] [] := by
  unfold f_X8_weather
  refine oj_iload_n hc dX8_weather_0 rfl 1 rfl ?_
  refine oj_iconst hc 0 dX8_weather_1 kc_0 ?_
  refine oj_iconst hc 2 dX8_weather_2 kc_2 ?_
  refine oj_cS1 hc cs_X8_70 (by omega) [.int a1, .int 0, .int 2] [] rfl rfl (Nat.le_of_ble_eq_true rfl) dX8_weather_3 (c_X8_isWithin a1 0 2 σ) (fun r1 => ?_)
  refine oj_if_eq hc 43 dX8_weather_6 (by decide) (fun _ => ?_) ?_
  · refine oj_iconst hc 0 dX8_weather_43 kc_0 ?_
    exact hret _ _ _ _ rfl dX8_weather_44
  · refine oj_iload_n hc dX8_weather_9 rfl 2 rfl ?_
    refine oj_aload_n hc dX8_weather_10 rfl 0 rfl ?_
    refine oj_getf hc ff_X8_74 oC_OilWatch rfl dX8_weather_11 ?_
    refine oj_sipush hc 500 dX8_weather_14 ks_500 ?_
    refine oj_cS1 hc cs_X8_70 (by omega) [.int a2, .int (σ 0 10), .int 500] [] rfl rfl (Nat.le_of_ble_eq_true rfl) dX8_weather_17 (c_X8_isWithin a2 (σ 0 10) 500 σ) (fun r2 => ?_)
    refine oj_if_eq hc 43 dX8_weather_20 (by decide) (fun _ => ?_) ?_
    · refine oj_iconst hc 0 dX8_weather_43 kc_0 ?_
      exact hret _ _ _ _ rfl dX8_weather_44
    · refine oj_iload_n hc dX8_weather_23 rfl 3 rfl ?_
      refine oj_iconst hc 0 dX8_weather_24 kc_0 ?_
      refine oj_iconst hc 4 dX8_weather_25 kc_4 ?_
      refine oj_cS1 hc cs_X8_70 (by omega) [.int a3, .int 0, .int 4] [] rfl rfl (Nat.le_of_ble_eq_true rfl) dX8_weather_26 (c_X8_isWithin a3 0 4 σ) (fun r3 => ?_)
      refine oj_if_eq hc 43 dX8_weather_29 (by decide) (fun _ => ?_) ?_
      · refine oj_iconst hc 0 dX8_weather_43 kc_0 ?_
        exact hret _ _ _ _ rfl dX8_weather_44
      · refine oj_iload hc dX8_weather_32 4 rfl ?_
        refine oj_iconst hc 0 dX8_weather_34 kc_0 ?_
        refine oj_bipush hc 9 dX8_weather_35 kb_9 ?_
        refine oj_cS1 hc cs_X8_70 (by omega) [.int a4, .int 0, .int 9] [] rfl rfl (Nat.le_of_ble_eq_true rfl) dX8_weather_37 (c_X8_isWithin a4 0 9 σ) (fun r4 => ?_)
        refine oj_if_ne hc 45 dX8_weather_40 (by decide) ?_ (fun _ => ?_)
        · refine oj_aload_n hc dX8_weather_45 rfl 0 rfl ?_
          refine oj_getf hc ff_X8_26 oC_OilWatch rfl dX8_weather_46 ?_
          refine oj_iload_n hc dX8_weather_49 rfl 1 rfl ?_
          refine oj_iload_n hc dX8_weather_50 rfl 2 rfl ?_
          refine oj_iload_n hc dX8_weather_51 rfl 3 rfl ?_
          refine oj_iload hc dX8_weather_52 4 rfl ?_
          refine oj_cVv hc cv_X8_93 (by omega) oC_Sky [.int a1, .int a2, .int a3, .int a4] [] rfl rfl (Nat.le_of_ble_eq_true rfl) dX8_weather_54 (c_X6_tell a1 a2 a3 a4 σ) (fun σ6 => ?_)
          refine oj_iconst hc 1 dX8_weather_57 kc_1 ?_
          exact hret _ _ _ _ rfl dX8_weather_58
        · refine oj_iconst hc 0 dX8_weather_43 kc_0 ?_
          exact hret _ _ _ _ rfl dX8_weather_44
set_option maxRecDepth 100000 in
theorem c_X8_weather {l : Launch} {D : va_G} {E : ojE} {ad : Nat → Nat} (a1 : Int32) (a2 : Int32) (a3 : Int32) (a4 : Int32) (σ : ojS) : ∀ (r : Int32) (σ1 : ojS), f_X8_weather a1 a2 a3 a4 σ = some (r, σ1) → ojMi (vO_ l D E ad) yX8_weather cX8_weather 5 (some .boolean) 2 [.ref (ad 0), .int a1, .int a2, .int a3, .int a4] σ r σ1 :=
  ojMi_W (by decide +kernel) rfl .boolean rfl (Nat.le_of_ble_eq_true rfl) rfl (fun X Q hc hret => wk_X8_weather hc hret a1 a2 a3 a4 σ)

def f_X8_boom (a1 : Int32) (a2 : Int32) (a3 : Int32) (σ : ojS) : Option (Int32 × ojS) :=
  ojB1 (f_X2_isSea a1 σ) (fun (r1 : Int32) =>
    if r1 = 0 then
      some ((-1), σ)
    else
      ojB1 (f_X2_isSea a2 σ) (fun (r2 : Int32) =>
        if r2 = 0 then
          some ((-1), σ)
        else
          ojB1 (f_X8_isWithin a3 0 9) (fun (r3 : Int32) =>
            if r3 = 0 then
              some ((-1), σ)
            else
              ojB1 (f_X2_wayBeside a1 a2) (fun (r4 : Int32) =>
                if r4 = 0 then
                  some ((-1), σ)
                else
                  ojB2 (f_X0_lay a1 r4 a3 σ) (fun (r5 : Int32) (σ6 : ojS) =>
                    some (r5, σ6))))))
set_option maxRecDepth 100000 in
set_option maxHeartbeats 4000000 in
theorem wk_X8_boom {l : Launch} {D : va_G} {E : ojE} {ad : Nat → Nat} {X : ojX} {Q : Int32 × ojS → State → Prop} (hc : ojC X (vO_ l D E ad) RX8 cX8_boom 5 4) (hret : ojRi X (vO_ l D E ad) Q cX8_boom .int) (a1 : Int32) (a2 : Int32) (a3 : Int32) (σ : ojS) : ojJ X (vO_ l D E ad) Q (f_X8_boom a1 a2 a3 σ) σ 0 [(0, .ref (ad 0)), (1, .int a1), (2, .int a2), (3, .int a3)] [] := by
  unfold f_X8_boom
  refine oj_aload_n hc dX8_boom_0 rfl 0 rfl ?_
  refine oj_getf hc ff_X8_12 oC_OilWatch rfl dX8_boom_1 ?_
  refine oj_iload_n hc dX8_boom_4 rfl 1 rfl ?_
  refine oj_cV1 hc cv_X8_97 (by omega) oC_Net [.int a1] [] rfl rfl (Nat.le_of_ble_eq_true rfl) dX8_boom_5 (c_X2_isSea a1 σ) (fun r1 => ?_)
  refine oj_if_eq hc 32 dX8_boom_8 (by decide) (fun _ => ?_) ?_
  · refine oj_iconst hc (-1) dX8_boom_32 kc_m1 ?_
    exact hret _ _ _ _ rfl dX8_boom_33
  · refine oj_aload_n hc dX8_boom_11 rfl 0 rfl ?_
    refine oj_getf hc ff_X8_12 oC_OilWatch rfl dX8_boom_12 ?_
    refine oj_iload_n hc dX8_boom_15 rfl 2 rfl ?_
    refine oj_cV1 hc cv_X8_97 (by omega) oC_Net [.int a2] [] rfl rfl (Nat.le_of_ble_eq_true rfl) dX8_boom_16 (c_X2_isSea a2 σ) (fun r2 => ?_)
    refine oj_if_eq hc 32 dX8_boom_19 (by decide) (fun _ => ?_) ?_
    · refine oj_iconst hc (-1) dX8_boom_32 kc_m1 ?_
      exact hret _ _ _ _ rfl dX8_boom_33
    · refine oj_iload_n hc dX8_boom_22 rfl 3 rfl ?_
      refine oj_iconst hc 0 dX8_boom_23 kc_0 ?_
      refine oj_bipush hc 9 dX8_boom_24 kb_9 ?_
      refine oj_cS1 hc cs_X8_70 (by omega) [.int a3, .int 0, .int 9] [] rfl rfl (Nat.le_of_ble_eq_true rfl) dX8_boom_26 (c_X8_isWithin a3 0 9 σ) (fun r3 => ?_)
      refine oj_if_ne hc 34 dX8_boom_29 (by decide) ?_ (fun _ => ?_)
      · refine oj_iload_n hc dX8_boom_34 rfl 1 rfl ?_
        refine oj_iload_n hc dX8_boom_35 rfl 2 rfl ?_
        refine oj_cS1 hc cs_X8_100 (by omega) [.int a1, .int a2] [] rfl rfl (Nat.le_of_ble_eq_true rfl) dX8_boom_36 (c_X2_wayBeside a1 a2 σ) (fun r4 => ?_)
        refine oj_istore hc [(0, .ref (ad 0)), (1, .int a1), (2, .int a2), (3, .int a3), (4, .int r4)] rfl (by decide) dX8_boom_39 ?_
        refine oj_iload hc dX8_boom_41 4 rfl ?_
        refine oj_if_ne hc 50 dX8_boom_43 (by decide) ?_ (fun _ => ?_)
        · refine oj_aload_n hc dX8_boom_50 rfl 0 rfl ?_
          refine oj_getf hc ff_X8_19 oC_OilWatch rfl dX8_boom_51 ?_
          refine oj_iload_n hc dX8_boom_54 rfl 1 rfl ?_
          refine oj_iload hc dX8_boom_55 4 rfl ?_
          refine oj_iload_n hc dX8_boom_57 rfl 3 rfl ?_
          refine oj_cV2 hc cv_X8_104 (by omega) oC_Booms [.int a1, .int r4, .int a3] [] rfl rfl (Nat.le_of_ble_eq_true rfl) dX8_boom_58 (c_X0_lay a1 r4 a3 σ) (fun r5 σ6 => ?_)
          exact hret _ _ _ _ rfl dX8_boom_61
        · refine oj_iconst hc (-1) dX8_boom_46 kc_m1 ?_
          refine oj_goto hc 61 dX8_boom_47 (by decide) ?_
          exact hret _ _ _ _ rfl dX8_boom_61
      · refine oj_iconst hc (-1) dX8_boom_32 kc_m1 ?_
        exact hret _ _ _ _ rfl dX8_boom_33
set_option maxRecDepth 100000 in
theorem c_X8_boom {l : Launch} {D : va_G} {E : ojE} {ad : Nat → Nat} (a1 : Int32) (a2 : Int32) (a3 : Int32) (σ : ojS) : ∀ (r : Int32) (σ1 : ojS), f_X8_boom a1 a2 a3 σ = some (r, σ1) → ojMi (vO_ l D E ad) yX8_boom cX8_boom 5 (some .int) 4 [.ref (ad 0), .int a1, .int a2, .int a3] σ r σ1 :=
  ojMi_W (by decide +kernel) rfl .int rfl (Nat.le_of_ble_eq_true rfl) rfl (fun X Q hc hret => wk_X8_boom hc hret a1 a2 a3 σ)

def f_X8_lift (a1 : Int32) (σ : ojS) : Option (Int32 × ojS) :=
  ojB2 (f_X0_takeUp a1 σ) (fun (r1 : Int32) (σ2 : ojS) =>
    ojBl r1 (some (r1, σ2)))
set_option maxRecDepth 100000 in
set_option maxHeartbeats 4000000 in
theorem wk_X8_lift {l : Launch} {D : va_G} {E : ojE} {ad : Nat → Nat} {X : ojX} {Q : Int32 × ojS → State → Prop} (hc : ojC X (vO_ l D E ad) RX8 cX8_lift 2 4) (hret : ojRi X (vO_ l D E ad) Q cX8_lift .boolean) (a1 : Int32) (σ : ojS) : ojJ X (vO_ l D E ad) Q (f_X8_lift a1 σ) σ 0 [(0, .ref (ad 0)), (1, .int a1)] [] := by
  unfold f_X8_lift
  refine oj_aload_n hc dX8_lift_0 rfl 0 rfl ?_
  refine oj_getf hc ff_X8_19 oC_OilWatch rfl dX8_lift_1 ?_
  refine oj_iload_n hc dX8_lift_4 rfl 1 rfl ?_
  refine oj_cV2 hc cv_X8_108 (by omega) oC_Booms [.int a1] [] rfl rfl (Nat.le_of_ble_eq_true rfl) dX8_lift_5 (c_X0_takeUp a1 σ) (fun r1 σ2 => ?_)
  refine oj_bl (fun hz3 => ?_)
  exact hret _ _ _ _ (oj_nbl hz3) dX8_lift_8
set_option maxRecDepth 100000 in
theorem c_X8_lift {l : Launch} {D : va_G} {E : ojE} {ad : Nat → Nat} (a1 : Int32) (σ : ojS) : ∀ (r : Int32) (σ1 : ojS), f_X8_lift a1 σ = some (r, σ1) → ojMi (vO_ l D E ad) yX8_lift cX8_lift 2 (some .boolean) 4 [.ref (ad 0), .int a1] σ r σ1 :=
  ojMi_W (by decide +kernel) rfl .boolean rfl (Nat.le_of_ble_eq_true rfl) rfl (fun X Q hc hret => wk_X8_lift hc hret a1 σ)

def f_X8_spill_49 (a1 : Int32) (a2 : Int32) (σ : ojS) : Option (Int32 × ojS) :=
  ojLet (ojU σ 0 11 ((σ 0 11) + a2)) (fun (σ3 : ojS) =>
    ojChk a1 96 (
      ojChk a1 96 (ojLet (ojU σ3 (23 + 0) a1.toNatClampNeg ((σ3 (23 + 0) a1.toNatClampNeg) + a2)) (fun (σ4 : ojS) =>
        ojChk a1 96 (
          some (σ4 (23 + 0) a1.toNatClampNeg, σ4))))))
set_option maxRecDepth 100000 in
set_option maxHeartbeats 4000000 in
theorem wk_X8_spill_49 {l : Launch} {D : va_G} {E : ojE} {ad : Nat → Nat} {X : ojX} {Q : Int32 × ojS → State → Prop} (hc : ojC X (vO_ l D E ad) RX8 cX8_spill 3 3) (hret : ojRi X (vO_ l D E ad) Q cX8_spill .int) (a1 : Int32) (a2 : Int32) (σ : ojS) : ojJ X (vO_ l D E ad) Q (f_X8_spill_49 a1 a2 σ) σ 49 [(0, .ref (ad 0)), (1, .int a1), (2, .int a2)] [] := by
  unfold f_X8_spill_49
  refine oj_aload_n hc dX8_spill_49 rfl 0 rfl ?_
  refine oj_dup hc dX8_spill_50 rfl ?_
  refine oj_getf hc ff_X8_112 oC_OilWatch rfl dX8_spill_51 ?_
  refine oj_iload_n hc dX8_spill_54 rfl 2 rfl ?_
  refine oj_iadd hc dX8_spill_55 ?_
  refine oj_putf hc fp_X8_112 oC_OilWatch oC_OilWatch_s11 rfl rfl (Nat.le_of_ble_eq_true rfl) dX8_spill_56 (fun σ3 => ?_)
  refine oj_aload_n hc dX8_spill_59 rfl 0 rfl ?_
  refine oj_getf hc ff_X8_40 oC_OilWatch rfl dX8_spill_60 ?_
  refine oj_getf hc ff_X8_78 (oC_Slick oj_04) rfl dX8_spill_63 ?_
  refine oj_iload_n hc dX8_spill_66 rfl 1 rfl ?_
  refine oj_dup2 hc dX8_spill_67 rfl rfl ?_
  refine oj_iald hc 0 (oC_liters oj_04) rfl dX8_spill_68 ?_
  refine oj_iload_n hc dX8_spill_69 rfl 2 rfl ?_
  refine oj_iadd hc dX8_spill_70 ?_
  refine oj_iast hc 0 (oC_liters oj_04) (oC_liters_s oj_04) rfl rfl dX8_spill_71 (fun σ4 => ?_)
  refine oj_aload_n hc dX8_spill_72 rfl 0 rfl ?_
  refine oj_getf hc ff_X8_40 oC_OilWatch rfl dX8_spill_73 ?_
  refine oj_getf hc ff_X8_78 (oC_Slick oj_04) rfl dX8_spill_76 ?_
  refine oj_iload_n hc dX8_spill_79 rfl 1 rfl ?_
  refine oj_iald hc 0 (oC_liters oj_04) rfl dX8_spill_80 ?_
  exact hret _ _ _ _ rfl dX8_spill_81
def f_X8_spill (a1 : Int32) (a2 : Int32) (σ : ojS) : Option (Int32 × ojS) :=
  ojB1 (f_X2_isSea a1 σ) (fun (r1 : Int32) =>
    if r1 = 0 then
      some ((-1), σ)
    else
      ojB1 (f_X8_isWithin a2 1 100000) (fun (r2 : Int32) =>
        if r2 = 0 then
          some ((-1), σ)
        else
          if ((σ 0 11) + a2) ≤ 1000000 then
            if (σ 0 11) = 0 then
              ojLet (ojU σ 0 12 (σ 0 10)) (fun (σ5 : ojS) =>
                f_X8_spill_49 a1 a2 σ5)
            else
              f_X8_spill_49 a1 a2 σ
          else
            some ((-1), σ)))
set_option maxRecDepth 100000 in
set_option maxHeartbeats 4000000 in
theorem wk_X8_spill {l : Launch} {D : va_G} {E : ojE} {ad : Nat → Nat} {X : ojX} {Q : Int32 × ojS → State → Prop} (hc : ojC X (vO_ l D E ad) RX8 cX8_spill 3 3) (hret : ojRi X (vO_ l D E ad) Q cX8_spill .int) (a1 : Int32) (a2 : Int32) (σ : ojS) : ojJ X (vO_ l D E ad) Q (f_X8_spill a1 a2 σ) σ 0 [(0, .ref (ad 0)), (1, .int a1), (2, .int a2)] [] := by
  unfold f_X8_spill
  refine oj_aload_n hc dX8_spill_0 rfl 0 rfl ?_
  refine oj_getf hc ff_X8_12 oC_OilWatch rfl dX8_spill_1 ?_
  refine oj_iload_n hc dX8_spill_4 rfl 1 rfl ?_
  refine oj_cV1 hc cv_X8_97 (by omega) oC_Net [.int a1] [] rfl rfl (Nat.le_of_ble_eq_true rfl) dX8_spill_5 (c_X2_isSea a1 σ) (fun r1 => ?_)
  refine oj_if_eq hc 32 dX8_spill_8 (by decide) (fun _ => ?_) ?_
  · refine oj_iconst hc (-1) dX8_spill_32 kc_m1 ?_
    exact hret _ _ _ _ rfl dX8_spill_33
  · refine oj_iload_n hc dX8_spill_11 rfl 2 rfl ?_
    refine oj_iconst hc 1 dX8_spill_12 kc_1 ?_
    refine oj_ldc hc kd_X8_111 dX8_spill_13 ?_
    refine oj_cS1 hc cs_X8_70 (by omega) [.int a2, .int 1, .int 100000] [] rfl rfl (Nat.le_of_ble_eq_true rfl) dX8_spill_15 (c_X8_isWithin a2 1 100000 σ) (fun r2 => ?_)
    refine oj_if_eq hc 32 dX8_spill_18 (by decide) (fun _ => ?_) ?_
    · refine oj_iconst hc (-1) dX8_spill_32 kc_m1 ?_
      exact hret _ _ _ _ rfl dX8_spill_33
    · refine oj_aload_n hc dX8_spill_21 rfl 0 rfl ?_
      refine oj_getf hc ff_X8_112 oC_OilWatch rfl dX8_spill_22 ?_
      refine oj_iload_n hc dX8_spill_25 rfl 2 rfl ?_
      refine oj_iadd hc dX8_spill_26 ?_
      refine oj_ldc hc kd_X8_115 dX8_spill_27 ?_
      refine oj_icmp_le hc 34 dX8_spill_29 (by decide) (fun _ => ?_) ?_
      · refine oj_aload_n hc dX8_spill_34 rfl 0 rfl ?_
        refine oj_getf hc ff_X8_112 oC_OilWatch rfl dX8_spill_35 ?_
        refine oj_if_ne hc 49 dX8_spill_38 (by decide) ?_ (fun _ => ?_)
        · exact wk_X8_spill_49 hc hret a1 a2 σ
        · refine oj_aload_n hc dX8_spill_41 rfl 0 rfl ?_
          refine oj_aload_n hc dX8_spill_42 rfl 0 rfl ?_
          refine oj_getf hc ff_X8_74 oC_OilWatch rfl dX8_spill_43 ?_
          refine oj_putf hc fp_X8_116 oC_OilWatch oC_OilWatch_s12 rfl rfl (Nat.le_of_ble_eq_true rfl) dX8_spill_46 (fun σ5 => ?_)
          exact wk_X8_spill_49 hc hret a1 a2 σ5
      · refine oj_iconst hc (-1) dX8_spill_32 kc_m1 ?_
        exact hret _ _ _ _ rfl dX8_spill_33
set_option maxRecDepth 100000 in
theorem c_X8_spill {l : Launch} {D : va_G} {E : ojE} {ad : Nat → Nat} (a1 : Int32) (a2 : Int32) (σ : ojS) : ∀ (r : Int32) (σ1 : ojS), f_X8_spill a1 a2 σ = some (r, σ1) → ojMi (vO_ l D E ad) yX8_spill cX8_spill 3 (some .int) 3 [.ref (ad 0), .int a1, .int a2] σ r σ1 :=
  ojMi_W (by decide +kernel) rfl .int rfl (Nat.le_of_ble_eq_true rfl) rfl (fun X Q hc hret => wk_X8_spill hc hret a1 a2 σ)

def f_X8_skimmer (a1 : Int32) (a2 : Int32) (a3 : Int32) (a4 : Int32) (σ : ojS) : Option (Int32 × ojS) :=
  ojB1 (f_X2_isSea a1 σ) (fun (r1 : Int32) =>
    if r1 = 0 then
      some ((-1), σ)
    else
      ojB1 (f_X8_isWithin a2 1 5000) (fun (r2 : Int32) =>
        if r2 = 0 then
          some ((-1), σ)
        else
          ojB1 (f_X8_isWithin a3 0 100000) (fun (r3 : Int32) =>
            if r3 = 0 then
              some ((-1), σ)
            else
              ojB1 (f_X8_isWithin a4 1 3) (fun (r4 : Int32) =>
                if r4 = 0 then
                  some ((-1), σ)
                else
                  ojB2 (f_X1_add a1 a2 a3 a4 σ) (fun (r5 : Int32) (σ6 : ojS) =>
                    some (r5, σ6))))))
set_option maxRecDepth 100000 in
set_option maxHeartbeats 4000000 in
theorem wk_X8_skimmer {l : Launch} {D : va_G} {E : ojE} {ad : Nat → Nat} {X : ojX} {Q : Int32 × ojS → State → Prop} (hc : ojC X (vO_ l D E ad) RX8 cX8_skimmer 5 3) (hret : ojRi X (vO_ l D E ad) Q cX8_skimmer .int) (a1 : Int32) (a2 : Int32) (a3 : Int32) (a4 : Int32) (σ : ojS) : ojJ X (vO_ l D E ad) Q (f_X8_skimmer a1 a2 a3 a4 σ) σ 0 [(0, .ref (ad 0)), (1, .int a1), (2, .int a2), (3, .int a3), (4, .int a4)] [] := by
  unfold f_X8_skimmer
  refine oj_aload_n hc dX8_skimmer_0 rfl 0 rfl ?_
  refine oj_getf hc ff_X8_12 oC_OilWatch rfl dX8_skimmer_1 ?_
  refine oj_iload_n hc dX8_skimmer_4 rfl 1 rfl ?_
  refine oj_cV1 hc cv_X8_97 (by omega) oC_Net [.int a1] [] rfl rfl (Nat.le_of_ble_eq_true rfl) dX8_skimmer_5 (c_X2_isSea a1 σ) (fun r1 => ?_)
  refine oj_if_eq hc 42 dX8_skimmer_8 (by decide) (fun _ => ?_) ?_
  · refine oj_iconst hc (-1) dX8_skimmer_42 kc_m1 ?_
    exact hret _ _ _ _ rfl dX8_skimmer_43
  · refine oj_iload_n hc dX8_skimmer_11 rfl 2 rfl ?_
    refine oj_iconst hc 1 dX8_skimmer_12 kc_1 ?_
    refine oj_sipush hc 5000 dX8_skimmer_13 ks_5000 ?_
    refine oj_cS1 hc cs_X8_70 (by omega) [.int a2, .int 1, .int 5000] [] rfl rfl (Nat.le_of_ble_eq_true rfl) dX8_skimmer_16 (c_X8_isWithin a2 1 5000 σ) (fun r2 => ?_)
    refine oj_if_eq hc 42 dX8_skimmer_19 (by decide) (fun _ => ?_) ?_
    · refine oj_iconst hc (-1) dX8_skimmer_42 kc_m1 ?_
      exact hret _ _ _ _ rfl dX8_skimmer_43
    · refine oj_iload_n hc dX8_skimmer_22 rfl 3 rfl ?_
      refine oj_iconst hc 0 dX8_skimmer_23 kc_0 ?_
      refine oj_ldc hc kd_X8_111 dX8_skimmer_24 ?_
      refine oj_cS1 hc cs_X8_70 (by omega) [.int a3, .int 0, .int 100000] [] rfl rfl (Nat.le_of_ble_eq_true rfl) dX8_skimmer_26 (c_X8_isWithin a3 0 100000 σ) (fun r3 => ?_)
      refine oj_if_eq hc 42 dX8_skimmer_29 (by decide) (fun _ => ?_) ?_
      · refine oj_iconst hc (-1) dX8_skimmer_42 kc_m1 ?_
        exact hret _ _ _ _ rfl dX8_skimmer_43
      · refine oj_iload hc dX8_skimmer_32 4 rfl ?_
        refine oj_iconst hc 1 dX8_skimmer_34 kc_1 ?_
        refine oj_iconst hc 3 dX8_skimmer_35 kc_3 ?_
        refine oj_cS1 hc cs_X8_70 (by omega) [.int a4, .int 1, .int 3] [] rfl rfl (Nat.le_of_ble_eq_true rfl) dX8_skimmer_36 (c_X8_isWithin a4 1 3 σ) (fun r4 => ?_)
        refine oj_if_ne hc 44 dX8_skimmer_39 (by decide) ?_ (fun _ => ?_)
        · refine oj_aload_n hc dX8_skimmer_44 rfl 0 rfl ?_
          refine oj_getf hc ff_X8_33 oC_OilWatch rfl dX8_skimmer_45 ?_
          refine oj_iload_n hc dX8_skimmer_48 rfl 1 rfl ?_
          refine oj_iload_n hc dX8_skimmer_49 rfl 2 rfl ?_
          refine oj_iload_n hc dX8_skimmer_50 rfl 3 rfl ?_
          refine oj_iload hc dX8_skimmer_51 4 rfl ?_
          refine oj_cV2 hc cv_X8_119 (by omega) oC_Fleet [.int a1, .int a2, .int a3, .int a4] [] rfl rfl (Nat.le_of_ble_eq_true rfl) dX8_skimmer_53 (c_X1_add a1 a2 a3 a4 σ) (fun r5 σ6 => ?_)
          exact hret _ _ _ _ rfl dX8_skimmer_56
        · refine oj_iconst hc (-1) dX8_skimmer_42 kc_m1 ?_
          exact hret _ _ _ _ rfl dX8_skimmer_43
set_option maxRecDepth 100000 in
theorem c_X8_skimmer {l : Launch} {D : va_G} {E : ojE} {ad : Nat → Nat} (a1 : Int32) (a2 : Int32) (a3 : Int32) (a4 : Int32) (σ : ojS) : ∀ (r : Int32) (σ1 : ojS), f_X8_skimmer a1 a2 a3 a4 σ = some (r, σ1) → ojMi (vO_ l D E ad) yX8_skimmer cX8_skimmer 5 (some .int) 3 [.ref (ad 0), .int a1, .int a2, .int a3, .int a4] σ r σ1 :=
  ojMi_W (by decide +kernel) rfl .int rfl (Nat.le_of_ble_eq_true rfl) rfl (fun X Q hc hret => wk_X8_skimmer hc hret a1 a2 a3 a4 σ)

def f_X8_isWayOverSea_41 (rec0 : Int32 → Int32 → Int32 → ojS → Option Int32) (a1 : Int32) (a2 : Int32) (a3 : Int32) (a4 : Int32) (σ : ojS) : Option (Int32) :=
  ojFix (fun _ => none) 600 (fun (rec_41 : Int32 → Option (Int32)) (v4_41 : Int32) =>
    if 4 < v4_41 then
      some 0
    else
      ojB1 (f_X2_ahead a1 v4_41) (fun (r4 : Int32) =>
        ojB1 (rec0 r4 a2 (a3 - 1) σ) (fun (r5 : Int32) =>
          if r5 = 0 then
            ojLet (v4_41 + 1) (fun (x6 : Int32) =>
              rec_41 x6)
          else
            some 1))) a4
set_option maxRecDepth 100000 in
set_option maxHeartbeats 4000000 in
theorem wk_X8_isWayOverSea_41 {l : Launch} {D : va_G} {E : ojE} {ad : Nat → Nat} {X : ojX} {Q : Int32 → State → Prop} {dd : Nat} (hc : ojC X (vO_ l D E ad) RX8 cX8_isWayOverSea 5 (3 + (dd + 1))) (rec0 : Int32 → Int32 → Int32 → ojS → Option Int32) (hself : ∀ (x1 x2 x3 : Int32) (s : ojS) (r : Int32), rec0 x1 x2 x3 s = some r → ojMi (vO_ l D E ad) yX8_isWayOverSea cX8_isWayOverSea 5 (some .boolean) (3 + dd) [.ref (ad 1), .int x1, .int x2, .int x3] s r s) (σ : ojS) (hret : ojRr X (vO_ l D E ad) Q cX8_isWayOverSea .boolean σ) (a1 : Int32) (a2 : Int32) (a3 : Int32) (a4 : Int32) : ojJ X (vO_ l D E ad) Q (f_X8_isWayOverSea_41 rec0 a1 a2 a3 a4 σ) σ 41 [(0, .ref (ad 1)), (1, .int a1), (2, .int a2), (3, .int a3), (4, .int a4)] [] := by
  unfold f_X8_isWayOverSea_41
  refine oj_fix (fun (r : Int32 → Option (Int32)) => ∀ (v4_41 : Int32), ojJ X (vO_ l D E ad) Q (r v4_41) σ 41 [(0, .ref (ad 1)), (1, .int a1), (2, .int a2), (3, .int a3), (4, .int v4_41)] []) _ (fun _ => oj_none) (fun rec_41 hrec_41 v4_41 => ?_) 600 a4
  refine oj_iload hc dX8_isWayOverSea_41 4 rfl ?_
  refine oj_iconst hc 4 dX8_isWayOverSea_43 kc_4 ?_
  refine oj_icmp_gt hc 72 dX8_isWayOverSea_44 (by decide) (fun _ => ?_) ?_
  · refine oj_iconst hc 0 dX8_isWayOverSea_72 kc_0 ?_
    exact hret _ _ _ rfl dX8_isWayOverSea_73
  · refine oj_aload_n hc dX8_isWayOverSea_47 rfl 0 rfl ?_
    refine oj_iload_n hc dX8_isWayOverSea_48 rfl 1 rfl ?_
    refine oj_iload hc dX8_isWayOverSea_49 4 rfl ?_
    refine oj_cS1 hc cs_X8_270 (by omega) [.int a1, .int v4_41] [.ref (ad 1)] rfl rfl (Nat.le_of_ble_eq_true rfl) dX8_isWayOverSea_51 (c_X2_ahead a1 v4_41 σ) (fun r4 => ?_)
    refine oj_iload_n hc dX8_isWayOverSea_54 rfl 2 rfl ?_
    refine oj_iload_n hc dX8_isWayOverSea_55 rfl 3 rfl ?_
    refine oj_iconst hc 1 dX8_isWayOverSea_56 kc_1 ?_
    refine oj_isub hc dX8_isWayOverSea_57 ?_
    refine oj_cS1 hc cs_X8_142 (by omega) [.ref (ad 1), .int r4, .int a2, .int (a3 - 1)] [] rfl rfl (Nat.le_of_ble_eq_true rfl) dX8_isWayOverSea_58 (hself r4 a2 (a3 - 1) σ) (fun r5 => ?_)
    refine oj_if_eq hc 66 dX8_isWayOverSea_61 (by decide) (fun _ => ?_) ?_
    · refine oj_iinc hc 1 (fun u => [(0, .ref (ad 1)), (1, .int a1), (2, .int a2), (3, .int a3), (4, .int u)]) 4 rfl kc_1 (fun _ => rfl) (by decide) dX8_isWayOverSea_66 (fun x6 => ?_)
      refine oj_goto hc 41 dX8_isWayOverSea_69 (by decide) ?_
      exact hrec_41 x6
    · refine oj_iconst hc 1 dX8_isWayOverSea_64 kc_1 ?_
      exact hret _ _ _ rfl dX8_isWayOverSea_65
def g_X8_isWayOverSea (rec0 : Int32 → Int32 → Int32 → ojS → Option Int32) (a1 : Int32) (a2 : Int32) (a3 : Int32) (σ : ojS) : Option (Int32) :=
  if a3 < 0 then
    some 0
  else
    ojB1 (f_X2_isSea a1 σ) (fun (r1 : Int32) =>
      if r1 = 0 then
        some 0
      else
        ojB1 (f_X2_isSea a2 σ) (fun (r2 : Int32) =>
          if r2 = 0 then
            some 0
          else
            ojB1 (f_X2_distance a1 a2) (fun (r3 : Int32) =>
              if r3 ≤ a3 then
                if a1 = a2 then
                  some 1
                else
                  f_X8_isWayOverSea_41 rec0 a1 a2 a3 1 σ
              else
                some 0)))
set_option maxRecDepth 100000 in
set_option maxHeartbeats 4000000 in
theorem wk_X8_isWayOverSea {l : Launch} {D : va_G} {E : ojE} {ad : Nat → Nat} {X : ojX} {Q : Int32 → State → Prop} {dd : Nat} (hc : ojC X (vO_ l D E ad) RX8 cX8_isWayOverSea 5 (3 + (dd + 1))) (rec0 : Int32 → Int32 → Int32 → ojS → Option Int32) (hself : ∀ (x1 x2 x3 : Int32) (s : ojS) (r : Int32), rec0 x1 x2 x3 s = some r → ojMi (vO_ l D E ad) yX8_isWayOverSea cX8_isWayOverSea 5 (some .boolean) (3 + dd) [.ref (ad 1), .int x1, .int x2, .int x3] s r s) (σ : ojS) (hret : ojRr X (vO_ l D E ad) Q cX8_isWayOverSea .boolean σ) (a1 : Int32) (a2 : Int32) (a3 : Int32) : ojJ X (vO_ l D E ad) Q (g_X8_isWayOverSea rec0 a1 a2 a3 σ) σ 0 [(0, .ref (ad 1)), (1, .int a1), (2, .int a2), (3, .int a3)] [] := by
  unfold g_X8_isWayOverSea
  refine oj_iload_n hc dX8_isWayOverSea_0 rfl 3 rfl ?_
  refine oj_if_lt hc 29 dX8_isWayOverSea_1 (by decide) (fun _ => ?_) ?_
  · refine oj_iconst hc 0 dX8_isWayOverSea_29 kc_0 ?_
    exact hret _ _ _ rfl dX8_isWayOverSea_30
  · refine oj_aload_n hc dX8_isWayOverSea_4 rfl 0 rfl ?_
    refine oj_iload_n hc dX8_isWayOverSea_5 rfl 1 rfl ?_
    refine oj_cV1 hc cv_X8_97 (by omega) oC_Net [.int a1] [] rfl rfl (Nat.le_of_ble_eq_true rfl) dX8_isWayOverSea_6 (c_X2_isSea a1 σ) (fun r1 => ?_)
    refine oj_if_eq hc 29 dX8_isWayOverSea_9 (by decide) (fun _ => ?_) ?_
    · refine oj_iconst hc 0 dX8_isWayOverSea_29 kc_0 ?_
      exact hret _ _ _ rfl dX8_isWayOverSea_30
    · refine oj_aload_n hc dX8_isWayOverSea_12 rfl 0 rfl ?_
      refine oj_iload_n hc dX8_isWayOverSea_13 rfl 2 rfl ?_
      refine oj_cV1 hc cv_X8_97 (by omega) oC_Net [.int a2] [] rfl rfl (Nat.le_of_ble_eq_true rfl) dX8_isWayOverSea_14 (c_X2_isSea a2 σ) (fun r2 => ?_)
      refine oj_if_eq hc 29 dX8_isWayOverSea_17 (by decide) (fun _ => ?_) ?_
      · refine oj_iconst hc 0 dX8_isWayOverSea_29 kc_0 ?_
        exact hret _ _ _ rfl dX8_isWayOverSea_30
      · refine oj_iload_n hc dX8_isWayOverSea_20 rfl 1 rfl ?_
        refine oj_iload_n hc dX8_isWayOverSea_21 rfl 2 rfl ?_
        refine oj_cS1 hc cs_X8_302 (by omega) [.int a1, .int a2] [] rfl rfl (Nat.le_of_ble_eq_true rfl) dX8_isWayOverSea_22 (c_X2_distance a1 a2 σ) (fun r3 => ?_)
        refine oj_iload_n hc dX8_isWayOverSea_25 rfl 3 rfl ?_
        refine oj_icmp_le hc 31 dX8_isWayOverSea_26 (by decide) (fun _ => ?_) ?_
        · refine oj_iload_n hc dX8_isWayOverSea_31 rfl 1 rfl ?_
          refine oj_iload_n hc dX8_isWayOverSea_32 rfl 2 rfl ?_
          refine oj_icmp_ne hc 38 dX8_isWayOverSea_33 (by decide) ?_ (fun _ => ?_)
          · refine oj_iconst hc 1 dX8_isWayOverSea_38 kc_1 ?_
            refine oj_istore hc [(0, .ref (ad 1)), (1, .int a1), (2, .int a2), (3, .int a3), (4, .int 1)] rfl (by decide) dX8_isWayOverSea_39 ?_
            exact wk_X8_isWayOverSea_41 hc rec0 hself _ hret a1 a2 a3 1
          · refine oj_iconst hc 1 dX8_isWayOverSea_36 kc_1 ?_
            exact hret _ _ _ rfl dX8_isWayOverSea_37
        · refine oj_iconst hc 0 dX8_isWayOverSea_29 kc_0 ?_
          exact hret _ _ _ rfl dX8_isWayOverSea_30
def f_X8_isWayOverSea (d : Nat) : Int32 → Int32 → Int32 → ojS → Option Int32 := ojFix (fun _ _ _ _ => none) d g_X8_isWayOverSea
set_option maxRecDepth 100000 in
theorem c_X8_isWayOverSea {l : Launch} {D : va_G} {E : ojE} {ad : Nat → Nat} : ∀ (dd : Nat) (a1 a2 a3 : Int32) (σ : ojS) (r : Int32), f_X8_isWayOverSea dd a1 a2 a3 σ = some r → ojMi (vO_ l D E ad) yX8_isWayOverSea cX8_isWayOverSea 5 (some .boolean) (3 + dd) [.ref (ad 1), .int a1, .int a2, .int a3] σ r σ
  | 0, _, _, _, _, _, h => by cases h
  | dd + 1, a1, a2, a3, σ, r, h => (show ojMi (vO_ l D E ad) yX8_isWayOverSea cX8_isWayOverSea 5 (some .boolean) (3 + (dd + 1)) [.ref (ad 1), .int a1, .int a2, .int a3] σ r σ from (ojMi_R (by decide +kernel) rfl .boolean rfl (Nat.le_of_ble_eq_true rfl) rfl (fun X Q hc hret => wk_X8_isWayOverSea hc (f_X8_isWayOverSea dd) (c_X8_isWayOverSea dd) σ hret a1 a2 a3)) r h)

def f_X8_sail (a1 : Int32) (a2 : Int32) (σ : ojS) : Option (Int32 × ojS) :=
  ojB1 (f_X1_has a1 σ) (fun (r1 : Int32) =>
    if r1 = 0 then
      some (0, σ)
    else
      ojChk a1 4 (
        if (σ (15 + a1.toNatClampNeg) 5) = 0 then
          ojB1 (f_X8_isWayOverSea 8 (σ (15 + a1.toNatClampNeg) 0) a2 (σ (15 + a1.toNatClampNeg) 3) σ) (fun (r3 : Int32) =>
            if r3 = 0 then
              some (0, σ)
            else
              ojLet (ojU σ (15 + a1.toNatClampNeg) 0 a2) (fun (σ4 : ojS) =>
                ojLet (ojU σ4 (15 + a1.toNatClampNeg) 5 1) (fun (σ5 : ojS) =>
                  some (1, σ5))))
        else
          some (0, σ)))
set_option maxRecDepth 100000 in
set_option maxHeartbeats 4000000 in
theorem wk_X8_sail {l : Launch} {D : va_G} {E : ojE} {ad : Nat → Nat} {X : ojX} {Q : Int32 × ojS → State → Prop} (hc : ojC X (vO_ l D E ad) RX8 cX8_sail 4 12) (hret : ojRi X (vO_ l D E ad) Q cX8_sail .boolean) (a1 : Int32) (a2 : Int32) (σ : ojS) : ojJ X (vO_ l D E ad) Q (f_X8_sail a1 a2 σ) σ 0 [(0, .ref (ad 0)), (1, .int a1), (2, .int a2)] [] := by
  unfold f_X8_sail
  refine oj_aload_n hc dX8_sail_0 rfl 0 rfl ?_
  refine oj_getf hc ff_X8_33 oC_OilWatch rfl dX8_sail_1 ?_
  refine oj_iload_n hc dX8_sail_4 rfl 1 rfl ?_
  refine oj_cV1 hc cv_X8_123 (by omega) oC_Fleet [.int a1] [] rfl rfl (Nat.le_of_ble_eq_true rfl) dX8_sail_5 (c_X1_has a1 σ) (fun r1 => ?_)
  refine oj_if_ne hc 13 dX8_sail_8 (by decide) ?_ (fun _ => ?_)
  · refine oj_aload_n hc dX8_sail_13 rfl 0 rfl ?_
    refine oj_getf hc ff_X8_33 oC_OilWatch rfl dX8_sail_14 ?_
    refine oj_getf hc ff_X8_126 oC_Fleet rfl dX8_sail_17 ?_
    refine oj_iload_n hc dX8_sail_20 rfl 1 rfl ?_
    refine oj_aald hc 3 oC_skimmers rfl dX8_sail_21 (fun hi2 => ?_)
    refine oj_astore_n hc [(0, .ref (ad 0)), (1, .int a1), (2, .int a2), (3, .ref (ad (15 + a1.toNatClampNeg)))] rfl (by decide) dX8_sail_22 rfl ?_
    refine oj_aload_n hc dX8_sail_23 rfl 3 rfl ?_
    refine oj_getf hc ff_X8_130 (oC_Skimmer hi2) rfl dX8_sail_24 ?_
    refine oj_if_ne hc 49 dX8_sail_27 (by decide) ?_ (fun _ => ?_)
    · refine oj_iconst hc 0 dX8_sail_49 kc_0 ?_
      exact hret _ _ _ _ rfl dX8_sail_50
    · refine oj_aload_n hc dX8_sail_30 rfl 0 rfl ?_
      refine oj_getf hc ff_X8_12 oC_OilWatch rfl dX8_sail_31 ?_
      refine oj_aload_n hc dX8_sail_34 rfl 3 rfl ?_
      refine oj_getf hc ff_X8_136 (oC_Skimmer hi2) rfl dX8_sail_35 ?_
      refine oj_iload_n hc dX8_sail_38 rfl 2 rfl ?_
      refine oj_aload_n hc dX8_sail_39 rfl 3 rfl ?_
      refine oj_getf hc ff_X8_139 (oC_Skimmer hi2) rfl dX8_sail_40 ?_
      refine oj_cS1 hc cs_X8_142 (by omega) [.ref (ad 1), .int (σ (15 + a1.toNatClampNeg) 0), .int a2, .int (σ (15 + a1.toNatClampNeg) 3)] [] rfl rfl (Nat.le_of_ble_eq_true rfl) dX8_sail_43 (c_X8_isWayOverSea 8 (σ (15 + a1.toNatClampNeg) 0) a2 (σ (15 + a1.toNatClampNeg) 3) σ) (fun r3 => ?_)
      refine oj_if_ne hc 51 dX8_sail_46 (by decide) ?_ (fun _ => ?_)
      · refine oj_aload_n hc dX8_sail_51 rfl 3 rfl ?_
        refine oj_iload_n hc dX8_sail_52 rfl 2 rfl ?_
        refine oj_putf hc fp_X8_136 (oC_Skimmer hi2) (oC_Skimmer_s0 hi2) rfl rfl (Nat.le_of_ble_eq_true rfl) dX8_sail_53 (fun σ4 => ?_)
        refine oj_aload_n hc dX8_sail_56 rfl 3 rfl ?_
        refine oj_iconst hc 1 dX8_sail_57 kc_1 ?_
        refine oj_putf hc fp_X8_130 (oC_Skimmer hi2) (oC_Skimmer_s5 hi2) rfl rfl (Nat.le_of_ble_eq_true rfl) dX8_sail_58 (fun σ5 => ?_)
        refine oj_iconst hc 1 dX8_sail_61 kc_1 ?_
        exact hret _ _ _ _ rfl dX8_sail_62
      · refine oj_iconst hc 0 dX8_sail_49 kc_0 ?_
        exact hret _ _ _ _ rfl dX8_sail_50
  · refine oj_iconst hc 0 dX8_sail_11 kc_0 ?_
    exact hret _ _ _ _ rfl dX8_sail_12
set_option maxRecDepth 100000 in
theorem c_X8_sail {l : Launch} {D : va_G} {E : ojE} {ad : Nat → Nat} (a1 : Int32) (a2 : Int32) (σ : ojS) : ∀ (r : Int32) (σ1 : ojS), f_X8_sail a1 a2 σ = some (r, σ1) → ojMi (vO_ l D E ad) yX8_sail cX8_sail 4 (some .boolean) 12 [.ref (ad 0), .int a1, .int a2] σ r σ1 :=
  ojMi_W (by decide +kernel) rfl .boolean rfl (Nat.le_of_ble_eq_true rfl) rfl (fun X Q hc hret => wk_X8_sail hc hret a1 a2 σ)

def f_X8_empty (a1 : Int32) (σ : ojS) : Option (Int32 × ojS) :=
  ojB1 (f_X1_has a1 σ) (fun (r1 : Int32) =>
    if r1 = 0 then
      some ((-1), σ)
    else
      ojChk a1 4 (
        ojLet (σ (27 + 0) a1.toNatClampNeg) (fun (x2 : Int32) =>
          ojChk a1 4 (
            ojLet (ojU σ (15 + a1.toNatClampNeg) 4 ((σ (15 + a1.toNatClampNeg) 4) + x2)) (fun (σ4 : ojS) =>
              ojChk a1 4 (ojLet (ojU σ4 (27 + 0) a1.toNatClampNeg 0) (fun (σ5 : ojS) =>
                some (x2, σ5))))))))
set_option maxRecDepth 100000 in
set_option maxHeartbeats 4000000 in
theorem wk_X8_empty {l : Launch} {D : va_G} {E : ojE} {ad : Nat → Nat} {X : ojX} {Q : Int32 × ojS → State → Prop} (hc : ojC X (vO_ l D E ad) RX8 cX8_empty 3 2) (hret : ojRi X (vO_ l D E ad) Q cX8_empty .int) (a1 : Int32) (σ : ojS) : ojJ X (vO_ l D E ad) Q (f_X8_empty a1 σ) σ 0 [(0, .ref (ad 0)), (1, .int a1)] [] := by
  unfold f_X8_empty
  refine oj_aload_n hc dX8_empty_0 rfl 0 rfl ?_
  refine oj_getf hc ff_X8_33 oC_OilWatch rfl dX8_empty_1 ?_
  refine oj_iload_n hc dX8_empty_4 rfl 1 rfl ?_
  refine oj_cV1 hc cv_X8_123 (by omega) oC_Fleet [.int a1] [] rfl rfl (Nat.le_of_ble_eq_true rfl) dX8_empty_5 (c_X1_has a1 σ) (fun r1 => ?_)
  refine oj_if_ne hc 13 dX8_empty_8 (by decide) ?_ (fun _ => ?_)
  · refine oj_aload_n hc dX8_empty_13 rfl 0 rfl ?_
    refine oj_getf hc ff_X8_40 oC_OilWatch rfl dX8_empty_14 ?_
    refine oj_getf hc ff_X8_146 (oC_Slick oj_04) rfl dX8_empty_17 ?_
    refine oj_iload_n hc dX8_empty_20 rfl 1 rfl ?_
    refine oj_iald hc 0 (oC_loads oj_04) rfl dX8_empty_21 ?_
    refine oj_nm (fun x2 => ?_)
    refine oj_istore_n hc [(0, .ref (ad 0)), (1, .int a1), (2, .int x2)] rfl (by decide) dX8_empty_22 rfl ?_
    refine oj_aload_n hc dX8_empty_23 rfl 0 rfl ?_
    refine oj_getf hc ff_X8_33 oC_OilWatch rfl dX8_empty_24 ?_
    refine oj_getf hc ff_X8_126 oC_Fleet rfl dX8_empty_27 ?_
    refine oj_iload_n hc dX8_empty_30 rfl 1 rfl ?_
    refine oj_aald hc 3 oC_skimmers rfl dX8_empty_31 (fun hi3 => ?_)
    refine oj_dup hc dX8_empty_32 rfl ?_
    refine oj_getf hc ff_X8_149 (oC_Skimmer hi3) rfl dX8_empty_33 ?_
    refine oj_iload_n hc dX8_empty_36 rfl 2 rfl ?_
    refine oj_iadd hc dX8_empty_37 ?_
    refine oj_putf hc fp_X8_149 (oC_Skimmer hi3) (oC_Skimmer_s4 hi3) rfl rfl (Nat.le_of_ble_eq_true rfl) dX8_empty_38 (fun σ4 => ?_)
    refine oj_aload_n hc dX8_empty_41 rfl 0 rfl ?_
    refine oj_getf hc ff_X8_40 oC_OilWatch rfl dX8_empty_42 ?_
    refine oj_getf hc ff_X8_146 (oC_Slick oj_04) rfl dX8_empty_45 ?_
    refine oj_iload_n hc dX8_empty_48 rfl 1 rfl ?_
    refine oj_iconst hc 0 dX8_empty_49 kc_0 ?_
    refine oj_iast hc 0 (oC_loads oj_04) (oC_loads_s oj_04) rfl rfl dX8_empty_50 (fun σ5 => ?_)
    refine oj_iload_n hc dX8_empty_51 rfl 2 rfl ?_
    exact hret _ _ _ _ rfl dX8_empty_52
  · refine oj_iconst hc (-1) dX8_empty_11 kc_m1 ?_
    exact hret _ _ _ _ rfl dX8_empty_12
set_option maxRecDepth 100000 in
theorem c_X8_empty {l : Launch} {D : va_G} {E : ojE} {ad : Nat → Nat} (a1 : Int32) (σ : ojS) : ∀ (r : Int32) (σ1 : ojS), f_X8_empty a1 σ = some (r, σ1) → ojMi (vO_ l D E ad) yX8_empty cX8_empty 3 (some .int) 2 [.ref (ad 0), .int a1] σ r σ1 :=
  ojMi_W (by decide +kernel) rfl .int rfl (Nat.le_of_ble_eq_true rfl) rfl (fun X Q hc hret => wk_X8_empty hc hret a1 σ)

def f_X8_cellAtTurn (a0 : Int32) (a1 : Int32) : Option (Int32) :=
  if a1 = 2 then
    some (95 - a0)
  else
    if a1 = 3 then
      some (95 - a0)
    else
      some a0
set_option maxRecDepth 100000 in
set_option maxHeartbeats 4000000 in
theorem wk_X8_cellAtTurn {l : Launch} {D : va_G} {E : ojE} {ad : Nat → Nat} {X : ojX} {Q : Int32 → State → Prop} (hc : ojC X (vO_ l D E ad) RX8 cX8_cellAtTurn 2 1) (σ : ojS) (hret : ojRr X (vO_ l D E ad) Q cX8_cellAtTurn .int σ) (a0 : Int32) (a1 : Int32) : ojJ X (vO_ l D E ad) Q (f_X8_cellAtTurn a0 a1) σ 0 [(0, .int a0), (1, .int a1)] [] := by
  unfold f_X8_cellAtTurn
  refine oj_iload_n hc dX8_cellAtTurn_0 rfl 1 rfl ?_
  refine oj_iconst hc 2 dX8_cellAtTurn_1 kc_2 ?_
  refine oj_icmp_eq hc 10 dX8_cellAtTurn_2 (by decide) (fun _ => ?_) ?_
  · refine oj_bipush hc 95 dX8_cellAtTurn_10 kb_95 ?_
    refine oj_iload_n hc dX8_cellAtTurn_12 rfl 0 rfl ?_
    refine oj_isub hc dX8_cellAtTurn_13 ?_
    refine oj_goto hc 18 dX8_cellAtTurn_14 (by decide) ?_
    exact hret _ _ _ rfl dX8_cellAtTurn_18
  · refine oj_iload_n hc dX8_cellAtTurn_5 rfl 1 rfl ?_
    refine oj_iconst hc 3 dX8_cellAtTurn_6 kc_3 ?_
    refine oj_icmp_ne hc 17 dX8_cellAtTurn_7 (by decide) ?_ (fun _ => ?_)
    · refine oj_iload_n hc dX8_cellAtTurn_17 rfl 0 rfl ?_
      exact hret _ _ _ rfl dX8_cellAtTurn_18
    · refine oj_bipush hc 95 dX8_cellAtTurn_10 kb_95 ?_
      refine oj_iload_n hc dX8_cellAtTurn_12 rfl 0 rfl ?_
      refine oj_isub hc dX8_cellAtTurn_13 ?_
      refine oj_goto hc 18 dX8_cellAtTurn_14 (by decide) ?_
      exact hret _ _ _ rfl dX8_cellAtTurn_18
set_option maxRecDepth 100000 in
theorem c_X8_cellAtTurn {l : Launch} {D : va_G} {E : ojE} {ad : Nat → Nat} (a0 : Int32) (a1 : Int32) (σ : ojS) : ∀ (r : Int32), f_X8_cellAtTurn a0 a1 = some r → ojMi (vO_ l D E ad) yX8_cellAtTurn cX8_cellAtTurn 2 (some .int) 1 [.int a0, .int a1] σ r σ :=
  ojMi_R (by decide +kernel) rfl .int rfl (Nat.le_of_ble_eq_true rfl) rfl (fun X Q hc hret => wk_X8_cellAtTurn hc σ hret a0 a1)

def f_X8_driftFrom_64 (n1 : Nat) (a2 : Int32) (a5 : Int32) (a6 : Int32) (σ : ojS) : Option (ojS) :=
  ojChk a6 96 (
    ojChk a6 96 (ojLet (ojU σ (23 + n1) a6.toNatClampNeg ((σ (23 + n1) a6.toNatClampNeg) + a5)) (fun (σ4 : ojS) =>
      ojChk a2 96 (
        ojChk a2 96 (ojLet (ojU σ4 (23 + n1) a2.toNatClampNeg ((σ4 (23 + n1) a2.toNatClampNeg) - a5)) (fun (σ5 : ojS) =>
          some σ5))))))
set_option maxRecDepth 100000 in
set_option maxHeartbeats 4000000 in
theorem wk_X8_driftFrom_64 {l : Launch} {D : va_G} {E : ojE} {ad : Nat → Nat} {X : ojX} {Q : ojS → State → Prop} (hc : ojC X (vO_ l D E ad) RX8 cX8_driftFrom 7 2) (hret : ojRv X (vO_ l D E ad) Q cX8_driftFrom) (n1 : Nat) (h1 : n1 < 4) (a2 : Int32) (a5 : Int32) (a6 : Int32) (σ : ojS) : ojJ X (vO_ l D E ad) Q (f_X8_driftFrom_64 n1 a2 a5 a6 σ) σ 64 [(1, .ref (ad (19 + n1))), (2, .int a2), (5, .int a5), (6, .int a6)] [] := by
  unfold f_X8_driftFrom_64
  refine oj_aload_n hc dX8_driftFrom_64 rfl 0 rfl ?_
  refine oj_getf hc ff_X8_78 (oC_Slick h1) rfl dX8_driftFrom_65 ?_
  refine oj_iload hc dX8_driftFrom_68 3 rfl ?_
  refine oj_dup2 hc dX8_driftFrom_70 rfl rfl ?_
  refine oj_iald hc 0 (oC_liters h1) rfl dX8_driftFrom_71 ?_
  refine oj_iload hc dX8_driftFrom_72 2 rfl ?_
  refine oj_iadd hc dX8_driftFrom_74 ?_
  refine oj_iast hc 0 (oC_liters h1) (oC_liters_s h1) rfl rfl dX8_driftFrom_75 (fun σ4 => ?_)
  refine oj_aload_n hc dX8_driftFrom_76 rfl 0 rfl ?_
  refine oj_getf hc ff_X8_78 (oC_Slick h1) rfl dX8_driftFrom_77 ?_
  refine oj_iload_n hc dX8_driftFrom_80 rfl 1 rfl ?_
  refine oj_dup2 hc dX8_driftFrom_81 rfl rfl ?_
  refine oj_iald hc 0 (oC_liters h1) rfl dX8_driftFrom_82 ?_
  refine oj_iload hc dX8_driftFrom_83 2 rfl ?_
  refine oj_isub hc dX8_driftFrom_85 ?_
  refine oj_iast hc 0 (oC_liters h1) (oC_liters_s h1) rfl rfl dX8_driftFrom_86 (fun σ5 => ?_)
  exact hret _ _ _ dX8_driftFrom_87
def f_X8_driftFrom (n1 : Nat) (a2 : Int32) (a3 : Int32) (a4 : Int32) (σ : ojS) : Option (ojS) :=
  ojChk a2 96 (
    ojLet ((σ (23 + n1) a2.toNatClampNeg) / 2) (fun (x1 : Int32) =>
      if x1 = 0 then
        some σ
      else
        ojB1 (f_X2_ahead a2 a3) (fun (r2 : Int32) =>
          if r2 = (-1) then
            ojLet (ojU σ (19 + n1) 3 ((σ (19 + n1) 3) + x1)) (fun (σ7 : ojS) =>
              ojChk a2 96 (
                ojChk a2 96 (ojLet (ojU σ7 (23 + n1) a2.toNatClampNeg ((σ7 (23 + n1) a2.toNatClampNeg) - x1)) (fun (σ8 : ojS) =>
                  some σ8))))
          else
            ojB1 (f_X0_hold a2 a3 a4 σ) (fun (r3 : Int32) =>
              if r3 = 0 then
                f_X8_driftFrom_64 n1 a2 x1 r2 σ
              else
                ojLet (x1 / 10) (fun (x6 : Int32) =>
                  f_X8_driftFrom_64 n1 a2 x6 r2 σ)))))
set_option maxRecDepth 100000 in
set_option maxHeartbeats 4000000 in
theorem wk_X8_driftFrom {l : Launch} {D : va_G} {E : ojE} {ad : Nat → Nat} {X : ojX} {Q : ojS → State → Prop} (hc : ojC X (vO_ l D E ad) RX8 cX8_driftFrom 7 2) (hret : ojRv X (vO_ l D E ad) Q cX8_driftFrom) (n1 : Nat) (h1 : n1 < 4) (a2 : Int32) (a3 : Int32) (a4 : Int32) (σ : ojS) : ojJ X (vO_ l D E ad) Q (f_X8_driftFrom n1 a2 a3 a4 σ) σ 0 [(0, .ref (ad 0)), (1, .ref (ad (19 + n1))), (2, .int a2), (3, .int a3), (4, .int a4)] [] := by
  unfold f_X8_driftFrom
  refine oj_aload_n hc dX8_driftFrom_0 rfl 1 rfl ?_
  refine oj_getf hc ff_X8_78 (oC_Slick h1) rfl dX8_driftFrom_1 ?_
  refine oj_iload_n hc dX8_driftFrom_4 rfl 2 rfl ?_
  refine oj_iald hc 0 (oC_liters h1) rfl dX8_driftFrom_5 ?_
  refine oj_iconst hc 2 dX8_driftFrom_6 kc_2 ?_
  refine oj_idiv hc dX8_driftFrom_7 (by decide) ?_
  refine oj_nm (fun x1 => ?_)
  refine oj_istore hc [(0, .ref (ad 0)), (1, .ref (ad (19 + n1))), (2, .int a2), (3, .int a3), (4, .int a4), (5, .int x1)] rfl (by decide) dX8_driftFrom_8 ?_
  refine oj_iload hc dX8_driftFrom_10 5 rfl ?_
  refine oj_if_ne hc 16 dX8_driftFrom_12 (by decide) ?_ (fun _ => ?_)
  · refine oj_iload_n hc dX8_driftFrom_16 rfl 2 rfl ?_
    refine oj_iload_n hc dX8_driftFrom_17 rfl 3 rfl ?_
    refine oj_cS1 hc cs_X8_270 (by omega) [.int a2, .int a3] [] rfl rfl (Nat.le_of_ble_eq_true rfl) dX8_driftFrom_18 (c_X2_ahead a2 a3 σ) (fun r2 => ?_)
    refine oj_istore hc [(0, .ref (ad 0)), (1, .ref (ad (19 + n1))), (2, .int a2), (3, .int a3), (4, .int a4), (5, .int x1), (6, .int r2)] rfl (by decide) dX8_driftFrom_21 ?_
    refine oj_iload hc dX8_driftFrom_23 6 rfl ?_
    refine oj_iconst hc (-1) dX8_driftFrom_25 kc_m1 ?_
    refine oj_icmp_ne hc 43 dX8_driftFrom_26 (by decide) ?_ (fun _ => ?_)
    · refine oj_aload_n hc dX8_driftFrom_43 rfl 0 rfl ?_
      refine oj_getf hc ff_X8_19 oC_OilWatch rfl dX8_driftFrom_44 ?_
      refine oj_iload_n hc dX8_driftFrom_47 rfl 2 rfl ?_
      refine oj_iload_n hc dX8_driftFrom_48 rfl 3 rfl ?_
      refine oj_iload hc dX8_driftFrom_49 4 rfl ?_
      refine oj_cV1 hc cv_X8_273 (by omega) oC_Booms [.int a2, .int a3, .int a4] [] rfl rfl (Nat.le_of_ble_eq_true rfl) dX8_driftFrom_51 (c_X0_hold a2 a3 a4 σ) (fun r3 => ?_)
      refine oj_if_eq hc 64 dX8_driftFrom_54 (by decide) (fun _ => ?_) ?_
      · refine oj_sub [1, 2, 5, 6] rfl ?_
        exact wk_X8_driftFrom_64 hc hret n1 h1 a2 x1 r2 σ
      · refine oj_iload hc dX8_driftFrom_57 5 rfl ?_
        refine oj_bipush hc 10 dX8_driftFrom_59 kb_10 ?_
        refine oj_idiv hc dX8_driftFrom_61 (by decide) ?_
        refine oj_nm (fun x6 => ?_)
        refine oj_istore hc [(0, .ref (ad 0)), (1, .ref (ad (19 + n1))), (2, .int a2), (3, .int a3), (4, .int a4), (5, .int x6), (6, .int r2)] rfl (by decide) dX8_driftFrom_62 ?_
        refine oj_sub [1, 2, 5, 6] rfl ?_
        exact wk_X8_driftFrom_64 hc hret n1 h1 a2 x6 r2 σ
    · refine oj_aload_n hc dX8_driftFrom_29 rfl 1 rfl ?_
      refine oj_dup hc dX8_driftFrom_30 rfl ?_
      refine oj_getf hc ff_X8_234 (oC_Slick h1) rfl dX8_driftFrom_31 ?_
      refine oj_iload hc dX8_driftFrom_34 5 rfl ?_
      refine oj_iadd hc dX8_driftFrom_36 ?_
      refine oj_putf hc fp_X8_234 (oC_Slick h1) (oC_Slick_s3 h1) rfl rfl (Nat.le_of_ble_eq_true rfl) dX8_driftFrom_37 (fun σ7 => ?_)
      refine oj_goto hc 76 dX8_driftFrom_40 (by decide) ?_
      refine oj_aload_n hc dX8_driftFrom_76 rfl 1 rfl ?_
      refine oj_getf hc ff_X8_78 (oC_Slick h1) rfl dX8_driftFrom_77 ?_
      refine oj_iload_n hc dX8_driftFrom_80 rfl 2 rfl ?_
      refine oj_dup2 hc dX8_driftFrom_81 rfl rfl ?_
      refine oj_iald hc 0 (oC_liters h1) rfl dX8_driftFrom_82 ?_
      refine oj_iload hc dX8_driftFrom_83 5 rfl ?_
      refine oj_isub hc dX8_driftFrom_85 ?_
      refine oj_iast hc 0 (oC_liters h1) (oC_liters_s h1) rfl rfl dX8_driftFrom_86 (fun σ8 => ?_)
      exact hret _ _ _ dX8_driftFrom_87
  · exact hret _ _ _ dX8_driftFrom_15
set_option maxRecDepth 100000 in
theorem c_X8_driftFrom {l : Launch} {D : va_G} {E : ojE} {ad : Nat → Nat} (n1 : Nat) (h1 : n1 < 4) (a2 : Int32) (a3 : Int32) (a4 : Int32) (σ : ojS) : ∀ (σ1 : ojS), f_X8_driftFrom n1 a2 a3 a4 σ = some σ1 → ojMv (vO_ l D E ad) yX8_driftFrom cX8_driftFrom 7 none 2 [.ref (ad 0), .ref (ad (19 + n1)), .int a2, .int a3, .int a4] σ σ1 :=
  ojMv_W (by decide +kernel) rfl rfl (Nat.le_of_ble_eq_true rfl) rfl (fun X Q hc hret => wk_X8_driftFrom hc hret n1 h1 a2 a3 a4 σ)

def f_X8_driftAll_3 (n1 : Nat) (a2 : Int32) (a3 : Int32) (a4 : Int32) (σ : ojS) : Option (ojS) :=
  ojFix (fun _ _ => none) 600 (fun (rec_3 : Int32 → ojS → Option (ojS)) (v4_3 : Int32) (σ_3 : ojS) =>
    if 96 ≤ v4_3 then
      some σ_3
    else
      ojB1 (f_X8_cellAtTurn v4_3 a2) (fun (r1 : Int32) =>
        ojB1 (f_X2_isSea r1 σ_3) (fun (r2 : Int32) =>
          if r2 = 0 then
            ojLet (v4_3 + 1) (fun (x3 : Int32) =>
              rec_3 x3 σ_3)
          else
            ojBv (f_X8_driftFrom n1 r1 a2 a3 σ_3) (fun (σ5 : ojS) =>
              ojLet (v4_3 + 1) (fun (x6 : Int32) =>
                rec_3 x6 σ5))))) a4 σ
set_option maxRecDepth 100000 in
set_option maxHeartbeats 4000000 in
theorem wk_X8_driftAll_3 {l : Launch} {D : va_G} {E : ojE} {ad : Nat → Nat} {X : ojX} {Q : ojS → State → Prop} (hc : ojC X (vO_ l D E ad) RX8 cX8_driftAll 6 3) (hret : ojRv X (vO_ l D E ad) Q cX8_driftAll) (n1 : Nat) (h1 : n1 < 4) (a2 : Int32) (a3 : Int32) (a4 : Int32) (σ : ojS) : ojJ X (vO_ l D E ad) Q (f_X8_driftAll_3 n1 a2 a3 a4 σ) σ 3 [(0, .ref (ad 0)), (1, .ref (ad (19 + n1))), (2, .int a2), (3, .int a3), (4, .int a4)] [] := by
  unfold f_X8_driftAll_3
  refine oj_fix (fun (r : Int32 → ojS → Option (ojS)) => ∀ (v4_3 : Int32) (σ_3 : ojS), ojJ X (vO_ l D E ad) Q (r v4_3 σ_3) σ_3 3 [(0, .ref (ad 0)), (1, .ref (ad (19 + n1))), (2, .int a2), (3, .int a3), (4, .int v4_3)] []) _ (fun _ _ => oj_none) (fun rec_3 hrec_3 v4_3 σ_3 => ?_) 600 a4 σ
  refine oj_iload hc dX8_driftAll_3 4 rfl ?_
  refine oj_bipush hc 96 dX8_driftAll_5 kb_96 ?_
  refine oj_icmp_ge hc 45 dX8_driftAll_7 (by decide) (fun _ => ?_) ?_
  · exact hret _ _ _ dX8_driftAll_45
  · refine oj_iload hc dX8_driftAll_10 4 rfl ?_
    refine oj_iload_n hc dX8_driftAll_12 rfl 2 rfl ?_
    refine oj_cS1 hc cs_X8_263 (by omega) [.int v4_3, .int a2] [] rfl rfl (Nat.le_of_ble_eq_true rfl) dX8_driftAll_13 (c_X8_cellAtTurn v4_3 a2 σ_3) (fun r1 => ?_)
    refine oj_istore hc [(0, .ref (ad 0)), (1, .ref (ad (19 + n1))), (2, .int a2), (3, .int a3), (4, .int v4_3), (5, .int r1)] rfl (by decide) dX8_driftAll_16 ?_
    refine oj_aload_n hc dX8_driftAll_18 rfl 0 rfl ?_
    refine oj_getf hc ff_X8_12 oC_OilWatch rfl dX8_driftAll_19 ?_
    refine oj_iload hc dX8_driftAll_22 5 rfl ?_
    refine oj_cV1 hc cv_X8_97 (by omega) oC_Net [.int r1] [] rfl rfl (Nat.le_of_ble_eq_true rfl) dX8_driftAll_24 (c_X2_isSea r1 σ_3) (fun r2 => ?_)
    refine oj_if_eq hc 39 dX8_driftAll_27 (by decide) (fun _ => ?_) ?_
    · refine oj_iinc hc 1 (fun u => [(0, .ref (ad 0)), (1, .ref (ad (19 + n1))), (2, .int a2), (3, .int a3), (4, .int u), (5, .int r1)]) 4 rfl kc_1 (fun _ => rfl) (by decide) dX8_driftAll_39 (fun x3 => ?_)
      refine oj_goto hc 3 dX8_driftAll_42 (by decide) ?_
      refine oj_sub [0, 1, 2, 3, 4] rfl ?_
      exact hrec_3 x3 σ_3
    · refine oj_aload_n hc dX8_driftAll_30 rfl 0 rfl ?_
      refine oj_aload_n hc dX8_driftAll_31 rfl 1 rfl ?_
      refine oj_iload hc dX8_driftAll_32 5 rfl ?_
      refine oj_iload_n hc dX8_driftAll_34 rfl 2 rfl ?_
      refine oj_iload_n hc dX8_driftAll_35 rfl 3 rfl ?_
      refine oj_cVv hc cv_X8_266 (by omega) oC_OilWatch [.ref (ad (19 + n1)), .int r1, .int a2, .int a3] [] rfl rfl (Nat.le_of_ble_eq_true rfl) dX8_driftAll_36 (c_X8_driftFrom n1 h1 r1 a2 a3 σ_3) (fun σ5 => ?_)
      refine oj_iinc hc 1 (fun u => [(0, .ref (ad 0)), (1, .ref (ad (19 + n1))), (2, .int a2), (3, .int a3), (4, .int u), (5, .int r1)]) 4 rfl kc_1 (fun _ => rfl) (by decide) dX8_driftAll_39 (fun x6 => ?_)
      refine oj_goto hc 3 dX8_driftAll_42 (by decide) ?_
      refine oj_sub [0, 1, 2, 3, 4] rfl ?_
      exact hrec_3 x6 σ5
def f_X8_driftAll (n1 : Nat) (a2 : Int32) (a3 : Int32) (σ : ojS) : Option (ojS) :=
  f_X8_driftAll_3 n1 a2 a3 0 σ
set_option maxRecDepth 100000 in
set_option maxHeartbeats 4000000 in
theorem wk_X8_driftAll {l : Launch} {D : va_G} {E : ojE} {ad : Nat → Nat} {X : ojX} {Q : ojS → State → Prop} (hc : ojC X (vO_ l D E ad) RX8 cX8_driftAll 6 3) (hret : ojRv X (vO_ l D E ad) Q cX8_driftAll) (n1 : Nat) (h1 : n1 < 4) (a2 : Int32) (a3 : Int32) (σ : ojS) : ojJ X (vO_ l D E ad) Q (f_X8_driftAll n1 a2 a3 σ) σ 0 [(0, .ref (ad 0)), (1, .ref (ad (19 + n1))), (2, .int a2), (3, .int a3)] [] := by
  unfold f_X8_driftAll
  refine oj_iconst hc 0 dX8_driftAll_0 kc_0 ?_
  refine oj_istore hc [(0, .ref (ad 0)), (1, .ref (ad (19 + n1))), (2, .int a2), (3, .int a3), (4, .int 0)] rfl (by decide) dX8_driftAll_1 ?_
  exact wk_X8_driftAll_3 hc hret n1 h1 a2 a3 0 σ
set_option maxRecDepth 100000 in
theorem c_X8_driftAll {l : Launch} {D : va_G} {E : ojE} {ad : Nat → Nat} (n1 : Nat) (h1 : n1 < 4) (a2 : Int32) (a3 : Int32) (σ : ojS) : ∀ (σ1 : ojS), f_X8_driftAll n1 a2 a3 σ = some σ1 → ojMv (vO_ l D E ad) yX8_driftAll cX8_driftAll 6 none 3 [.ref (ad 0), .ref (ad (19 + n1)), .int a2, .int a3] σ σ1 :=
  ojMv_W (by decide +kernel) rfl rfl (Nat.le_of_ble_eq_true rfl) rfl (fun X Q hc hret => wk_X8_driftAll hc hret n1 h1 a2 a3 σ)

def f_X8_loseByAge_27 (n1 : Nat) (a3 : Int32) (a4 : Int32) (σ : ojS) : Option (ojS) :=
  ojFix (fun _ _ => none) 600 (fun (rec_27 : Int32 → ojS → Option (ojS)) (v4_27 : Int32) (σ_27 : ojS) =>
    if 96 ≤ v4_27 then
      some σ_27
    else
      ojB1 (f_X2_isSea v4_27 σ_27) (fun (r1 : Int32) =>
        if r1 = 0 then
          ojLet (v4_27 + 1) (fun (x2 : Int32) =>
            rec_27 x2 σ_27)
        else
          ojChk v4_27 96 (
            ojLet (((σ_27 (23 + n1) v4_27.toNatClampNeg) * a3) / 1000) (fun (x3 : Int32) =>
              ojChk v4_27 96 (
                ojChk v4_27 96 (ojLet (ojU σ_27 (23 + n1) v4_27.toNatClampNeg ((σ_27 (23 + n1) v4_27.toNatClampNeg) - x3)) (fun (σ4 : ojS) =>
                  ojLet (ojU σ4 (19 + n1) 2 ((σ4 (19 + n1) 2) + x3)) (fun (σ5 : ojS) =>
                    ojLet (v4_27 + 1) (fun (x6 : Int32) =>
                      rec_27 x6 σ5))))))))) a4 σ
set_option maxRecDepth 100000 in
set_option maxHeartbeats 4000000 in
theorem wk_X8_loseByAge_27 {l : Launch} {D : va_G} {E : ojE} {ad : Nat → Nat} {X : ojX} {Q : ojS → State → Prop} (hc : ojC X (vO_ l D E ad) RX8 cX8_loseByAge 6 3) (hret : ojRv X (vO_ l D E ad) Q cX8_loseByAge) (n1 : Nat) (h1 : n1 < 4) (a3 : Int32) (a4 : Int32) (σ : ojS) : ojJ X (vO_ l D E ad) Q (f_X8_loseByAge_27 n1 a3 a4 σ) σ 27 [(0, .ref (ad 0)), (1, .ref (ad (19 + n1))), (3, .int a3), (4, .int a4)] [] := by
  unfold f_X8_loseByAge_27
  refine oj_fix (fun (r : Int32 → ojS → Option (ojS)) => ∀ (v4_27 : Int32) (σ_27 : ojS), ojJ X (vO_ l D E ad) Q (r v4_27 σ_27) σ_27 27 [(0, .ref (ad 0)), (1, .ref (ad (19 + n1))), (3, .int a3), (4, .int v4_27)] []) _ (fun _ _ => oj_none) (fun rec_27 hrec_27 v4_27 σ_27 => ?_) 600 a4 σ
  refine oj_iload hc dX8_loseByAge_27 3 rfl ?_
  refine oj_bipush hc 96 dX8_loseByAge_29 kb_96 ?_
  refine oj_icmp_ge hc 90 dX8_loseByAge_31 (by decide) (fun _ => ?_) ?_
  · exact hret _ _ _ dX8_loseByAge_90
  · refine oj_aload_n hc dX8_loseByAge_34 rfl 0 rfl ?_
    refine oj_getf hc ff_X8_12 oC_OilWatch rfl dX8_loseByAge_35 ?_
    refine oj_iload hc dX8_loseByAge_38 3 rfl ?_
    refine oj_cV1 hc cv_X8_97 (by omega) oC_Net [.int v4_27] [] rfl rfl (Nat.le_of_ble_eq_true rfl) dX8_loseByAge_40 (c_X2_isSea v4_27 σ_27) (fun r1 => ?_)
    refine oj_if_eq hc 84 dX8_loseByAge_43 (by decide) (fun _ => ?_) ?_
    · refine oj_iinc hc 1 (fun u => [(0, .ref (ad 0)), (1, .ref (ad (19 + n1))), (3, .int a3), (4, .int u)]) 3 rfl kc_1 (fun _ => rfl) (by decide) dX8_loseByAge_84 (fun x2 => ?_)
      refine oj_goto hc 27 dX8_loseByAge_87 (by decide) ?_
      exact hrec_27 x2 σ_27
    · refine oj_aload_n hc dX8_loseByAge_46 rfl 1 rfl ?_
      refine oj_getf hc ff_X8_78 (oC_Slick h1) rfl dX8_loseByAge_47 ?_
      refine oj_iload hc dX8_loseByAge_50 3 rfl ?_
      refine oj_iald hc 0 (oC_liters h1) rfl dX8_loseByAge_52 ?_
      refine oj_iload_n hc dX8_loseByAge_53 rfl 2 rfl ?_
      refine oj_imul hc dX8_loseByAge_54 ?_
      refine oj_sipush hc 1000 dX8_loseByAge_55 ks_1000 ?_
      refine oj_idiv hc dX8_loseByAge_58 (by decide) ?_
      refine oj_nm (fun x3 => ?_)
      refine oj_istore hc [(0, .ref (ad 0)), (1, .ref (ad (19 + n1))), (3, .int a3), (4, .int v4_27), (5, .int x3)] rfl (by decide) dX8_loseByAge_59 ?_
      refine oj_aload_n hc dX8_loseByAge_61 rfl 1 rfl ?_
      refine oj_getf hc ff_X8_78 (oC_Slick h1) rfl dX8_loseByAge_62 ?_
      refine oj_iload hc dX8_loseByAge_65 3 rfl ?_
      refine oj_dup2 hc dX8_loseByAge_67 rfl rfl ?_
      refine oj_iald hc 0 (oC_liters h1) rfl dX8_loseByAge_68 ?_
      refine oj_iload hc dX8_loseByAge_69 4 rfl ?_
      refine oj_isub hc dX8_loseByAge_71 ?_
      refine oj_iast hc 0 (oC_liters h1) (oC_liters_s h1) rfl rfl dX8_loseByAge_72 (fun σ4 => ?_)
      refine oj_aload_n hc dX8_loseByAge_73 rfl 1 rfl ?_
      refine oj_dup hc dX8_loseByAge_74 rfl ?_
      refine oj_getf hc ff_X8_228 (oC_Slick h1) rfl dX8_loseByAge_75 ?_
      refine oj_iload hc dX8_loseByAge_78 4 rfl ?_
      refine oj_iadd hc dX8_loseByAge_80 ?_
      refine oj_putf hc fp_X8_228 (oC_Slick h1) (oC_Slick_s2 h1) rfl rfl (Nat.le_of_ble_eq_true rfl) dX8_loseByAge_81 (fun σ5 => ?_)
      refine oj_iinc hc 1 (fun u => [(0, .ref (ad 0)), (1, .ref (ad (19 + n1))), (3, .int a3), (4, .int u), (5, .int x3)]) 3 rfl kc_1 (fun _ => rfl) (by decide) dX8_loseByAge_84 (fun x6 => ?_)
      refine oj_goto hc 27 dX8_loseByAge_87 (by decide) ?_
      refine oj_sub [0, 1, 2, 3] rfl ?_
      exact hrec_27 x6 σ5
def f_X8_loseByAge_23 (n1 : Nat) (s0 : Int32) (σ : ojS) : Option (ojS) :=
  f_X8_loseByAge_27 n1 s0 0 σ
set_option maxRecDepth 100000 in
set_option maxHeartbeats 4000000 in
theorem wk_X8_loseByAge_23 {l : Launch} {D : va_G} {E : ojE} {ad : Nat → Nat} {X : ojX} {Q : ojS → State → Prop} (hc : ojC X (vO_ l D E ad) RX8 cX8_loseByAge 6 3) (hret : ojRv X (vO_ l D E ad) Q cX8_loseByAge) (n1 : Nat) (h1 : n1 < 4) (s0 : Int32) (σ : ojS) : ojJ X (vO_ l D E ad) Q (f_X8_loseByAge_23 n1 s0 σ) σ 23 [(0, .ref (ad 0)), (1, .ref (ad (19 + n1)))] [.int s0] := by
  unfold f_X8_loseByAge_23
  refine oj_istore_n hc [(0, .ref (ad 0)), (1, .ref (ad (19 + n1))), (3, .int s0)] rfl (by decide) dX8_loseByAge_23 rfl ?_
  refine oj_iconst hc 0 dX8_loseByAge_24 kc_0 ?_
  refine oj_istore hc [(0, .ref (ad 0)), (1, .ref (ad (19 + n1))), (3, .int s0), (4, .int 0)] rfl (by decide) dX8_loseByAge_25 ?_
  exact wk_X8_loseByAge_27 hc hret n1 h1 s0 0 σ
def f_X8_loseByAge (n1 : Nat) (a2 : Int32) (σ : ojS) : Option (ojS) :=
  if 12 ≤ a2 then
    if 48 ≤ a2 then
      f_X8_loseByAge_23 n1 2 σ
    else
      f_X8_loseByAge_23 n1 10 σ
  else
    f_X8_loseByAge_23 n1 30 σ
set_option maxRecDepth 100000 in
set_option maxHeartbeats 4000000 in
theorem wk_X8_loseByAge {l : Launch} {D : va_G} {E : ojE} {ad : Nat → Nat} {X : ojX} {Q : ojS → State → Prop} (hc : ojC X (vO_ l D E ad) RX8 cX8_loseByAge 6 3) (hret : ojRv X (vO_ l D E ad) Q cX8_loseByAge) (n1 : Nat) (h1 : n1 < 4) (a2 : Int32) (σ : ojS) : ojJ X (vO_ l D E ad) Q (f_X8_loseByAge n1 a2 σ) σ 0 [(0, .ref (ad 0)), (1, .ref (ad (19 + n1))), (2, .int a2)] [] := by
  unfold f_X8_loseByAge
  refine oj_iload_n hc dX8_loseByAge_0 rfl 2 rfl ?_
  refine oj_bipush hc 12 dX8_loseByAge_1 kb_12 ?_
  refine oj_icmp_ge hc 11 dX8_loseByAge_3 (by decide) (fun _ => ?_) ?_
  · refine oj_iload_n hc dX8_loseByAge_11 rfl 2 rfl ?_
    refine oj_bipush hc 48 dX8_loseByAge_12 kb_48 ?_
    refine oj_icmp_ge hc 22 dX8_loseByAge_14 (by decide) (fun _ => ?_) ?_
    · refine oj_iconst hc 2 dX8_loseByAge_22 kc_2 ?_
      refine oj_sub [0, 1] rfl ?_
      exact wk_X8_loseByAge_23 hc hret n1 h1 2 σ
    · refine oj_bipush hc 10 dX8_loseByAge_17 kb_10 ?_
      refine oj_goto hc 23 dX8_loseByAge_19 (by decide) ?_
      refine oj_sub [0, 1] rfl ?_
      exact wk_X8_loseByAge_23 hc hret n1 h1 10 σ
  · refine oj_bipush hc 30 dX8_loseByAge_6 kb_30 ?_
    refine oj_goto hc 23 dX8_loseByAge_8 (by decide) ?_
    refine oj_sub [0, 1] rfl ?_
    exact wk_X8_loseByAge_23 hc hret n1 h1 30 σ
set_option maxRecDepth 100000 in
theorem c_X8_loseByAge {l : Launch} {D : va_G} {E : ojE} {ad : Nat → Nat} (n1 : Nat) (h1 : n1 < 4) (a2 : Int32) (σ : ojS) : ∀ (σ1 : ojS), f_X8_loseByAge n1 a2 σ = some σ1 → ojMv (vO_ l D E ad) yX8_loseByAge cX8_loseByAge 6 none 3 [.ref (ad 0), .ref (ad (19 + n1)), .int a2] σ σ1 :=
  ojMv_W (by decide +kernel) rfl rfl (Nat.le_of_ble_eq_true rfl) rfl (fun X Q hc hret => wk_X8_loseByAge hc hret n1 h1 a2 σ)
