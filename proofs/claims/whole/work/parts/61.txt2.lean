set_option maxHeartbeats 4000000 in
set_option maxRecDepth 100000 in
theorem kX2_readOrder (l : Launch) (G : Gl) (P : Nat → Nat) (V : Vt) (hB : BV V) (op : 0 ≤ V 13 0 3 ∧ V 13 0 3 < V 13 0 2 ∧ V 13 0 2 ≤ 60) : Met l yX2_readOrder wsX2_readOrder ({ frames := 2, cells := 0, slots := 0, locals := 43 }) (va_Pc [.ref (ad G 13 0)] (Sg G P V)) (Qk G mkI (fun r P' V' => P' = P ∧ BV V' ∧ ∃ (f : Int) (w w2 : Int → Int), rdP (V 14 0) (V 13 0 2) (V 13 0 3) r f w ∧ V' = odW V f w2 ∧ (r = 1 → ∀ j, 0 ≤ j → j < nbO (V 14 0 (V 13 0 3)) → w2 j = w j))) 0 0 (mem G) := by
  refine z_met (cc := cX2_readOrder) (nL := 3) (ret := (some .boolean)) (own := RX2) (by decide +kernel) rfl rfl (Nat.le_of_ble_eq_true rfl) (zz_cat rfl) (L := [some (.ref (ad G 13 0)), none, none]) rfl ?_
  intro X E
  have iX2 : ∀ x ∈ wsX20, x ∈ wsX2_readOrder := by decide +kernel
  have f0 : Cond.fieldLink RX2 22 "SharedStates$Orders" "position" "I" ∈ wsX2_readOrder := by decide +kernel
  refine z_aload_n E dX2_readOrder_0 0 rfl rfl ?_
  refine z_callV E (ci := 2) (N := 8) (C := RX2) (T := TX2) (n := 0) (st := []) (rfl : vl 13 0 = true) rfl rfl [] (kX2_signHere l G P V  hB (by omega)) gX2_readOrder_X2_signHere rfl ⟨rfl, rfl⟩ (by decide +kernel) ⟨Nat.le_of_ble_eq_true rfl, Nat.le_of_ble_eq_true rfl⟩ rfl rfl (Nat.le_of_ble_eq_true rfl) rfl dX2_readOrder_1 (z_dtI ?_)
  rw [show shN (V 14 0) (V 13 0 2) (V 13 0 3) = V 14 0 (V 13 0 3) from if_pos (by omega)]
  refine z_callS E (n := 1) (st := []) [.int (iI (V 14 0 (V 13 0 3)))] (kX2_numbersOf l G P V (V 14 0 (V 13 0 3)) (hB.g 14 0 _ rfl)) gX2_readOrder_X2_numbersOf rfl ⟨rfl, rfl⟩ (by decide +kernel) ⟨Nat.le_of_ble_eq_true rfl, Nat.le_of_ble_eq_true rfl⟩ rfl rfl (Nat.le_of_ble_eq_true rfl) rfl dX2_readOrder_4 (z_dtI ?_)
  have zqnb := nbO_bd (V 14 0 (V 13 0 3))
  refine z_istore_n E dX2_readOrder_7 1 rfl (L' := [some (.ref (ad G 13 0)), some (.int (iI (nbO (V 14 0 (V 13 0 3))))), none]) (Nat.le_of_ble_eq_true rfl) rfl ?_
  refine z_iload_n E dX2_readOrder_8 1 rfl rfl ?_
  refine z_if_ne E 14 dX2_readOrder_9 rfl (by omega) (fun c_3 => ?_) (fun c_3 => ?_)
  · skip
    have zqnz : ¬ nbO (V 14 0 (V 13 0 3)) = 0 := c_3
    refine z_aload_n E dX2_readOrder_14 0 rfl rfl ?_
    refine z_dup E dX2_readOrder_15 rfl ?_
    have hr_4 := hB.g 13 0 3 rfl
    refine z_get E (ci := 2) (N := 8) (C := RX2) (T := TX2) (rfl : vl 13 0 = true) rfl rfl iX2 3 (by decide) rfl f0 rfl dX2_readOrder_16 ?_
    refine z_iconst E dX2_readOrder_19 ?_
    refine z_iadd E dX2_readOrder_20 ?_
    refine z_put E (ci := 2) (N := 8) (C := RX2) (T := TX2) (ty := .int) (rfl : vl 13 0 = true) (updI (V 13 0) 3 ((V 13 0 3) + 1)) rfl rfl iX2 tyX2 tyX2_ok nmX2 3 (by decide) rfl f0 rfl rfl rfl rfl (Nat.le_of_ble_eq_true rfl) rfl dX2_readOrder_21 ?_
    obtain ⟨V5, hV5⟩ : ∃ Z : Vt, Z = up V 13 0 (updI (V 13 0) 3 ((V 13 0 3) + 1)) := ⟨_, rfl⟩
    rw [← hV5]
    have hB5 : BV V5 := hV5 ▸ BV_up hB (by intro _; omega)
    have zqV0 : V5 = odW V (V 13 0 3 + 1) (V 15 0) := by rw [hV5]; exact odW_1
    refine z_iconst E dX2_readOrder_24 ?_
    refine z_istore_n E dX2_readOrder_25 2 rfl (L' := [some (.ref (ad G 13 0)), some (.int (iI (nbO (V 14 0 (V 13 0 3))))), some (.int (iI 0))]) (Nat.le_of_ble_eq_true rfl) rfl ?_
    have lp_26_6 : ∀ (fuel : Nat) (nn : Int) (i : Int) (Vl_26 : Vt), BV Vl_26 → (0 ≤ i) → (i ≤ nn) → (nn = nbO (V 14 0 (V 13 0 3))) → (∃ (f : Int) (w w2 : Int → Int), RS (V 14 0) (V 13 0 2) (V 13 0 3) (nbO (V 14 0 (V 13 0 3))) i f w ∧ Vl_26 = odW V f w2 ∧ (∀ j, 0 ≤ j → j < i → w2 j = w j) ∧ V 13 0 3 + 1 ≤ f ∧ f ≤ V 13 0 2) → (nn - i : Int).toNat < fuel → Kz X G P Vl_26 [some (.ref (ad G 13 0)), some (.int (iI nn)), some (.int (iI i))] 26 [] := by
      intro fuel
      induction fuel with
      | zero => intro nn i Vl_26 hBl_26 hi0 hi1 hnn hst hf_26; exact absurd hf_26 (Nat.not_lt_zero _)
      | succ fuel ih_26 =>
        intro nn i Vl_26 hBl_26 hi0 hi1 hnn hst hf_26
        obtain ⟨zf, zw, zv, hS, hVl, hww, hf0, hf1⟩ := hst
        have zq3 : Vl_26 13 0 3 = zf := by rw [hVl]; exact odW_3
        have zq2 : Vl_26 13 0 2 = V 13 0 2 := by rw [hVl]; exact odW_13 (by decide)
        have zq14 : Vl_26 14 0 = V 14 0 := by rw [hVl]; exact odW_r (by decide) (by decide)
        have zq15 : Vl_26 15 0 = zv := by rw [hVl]; exact odW_15
        refine z_iload_n E dX2_readOrder_26 2 rfl rfl ?_
        refine z_iload_n E dX2_readOrder_27 1 rfl rfl ?_
        refine z_icmp_ge E 78 dX2_readOrder_28 rfl (by omega) (by omega) (fun c_7 => ?_) (fun c_7 => ?_)
        · skip
          refine z_iconst E dX2_readOrder_78 ?_
          exact z_zret E dX2_readOrder_79 (by first | decide | omega) (⟨rfl, hBl_26, zf, zw, zv, RS_end (by have e : i = nbO (V 14 0 (V 13 0 3)) := (by omega); rw [e] at hS; exact hS) zqnz, hVl, fun _ j a b => hww j a (by omega)⟩)
        · skip
          refine z_aload_n E dX2_readOrder_31 0 rfl rfl ?_
          refine z_iload_n E dX2_readOrder_32 2 rfl rfl ?_
          refine z_callV E (ci := 2) (N := 8) (C := RX2) (T := TX2) (n := 1) (st := []) (rfl : vl 13 0 = true) rfl rfl [.int (iI i)] (kX2_readNumber l G P Vl_26 i hBl_26 (by omega) (by omega) (by omega)) gX2_readOrder_X2_readNumber rfl ⟨rfl, rfl⟩ (by decide +kernel) ⟨Nat.le_of_ble_eq_true rfl, Nat.le_of_ble_eq_true rfl⟩ rfl rfl (Nat.le_of_ble_eq_true rfl) rfl dX2_readOrder_33 (z_exI (fun r_8 P_8 V_8 h_8 => ?_))
          obtain ⟨hP_8, hB_8, h_8⟩ := h_8
          rw [hP_8]
          obtain ⟨zd, zqd, zqr, zqv, zqb0, zqb1⟩ := h_8
          rw [zq14, zq2, zq3] at zqd
          have zqW : V_8 = odW V (zf + zd) (updI zv i (nmV (V 14 0) zf zd.toNat)) := by rw [zqv, zq14, zq3, zq15, hVl]; exact odW_u
          have zqle := DG_le zqd hf1
          have zqd0 := zqd.1
          have zqbb := b2i_b (0 < zd)
          have zy3 : V_8 13 0 3 = zf + zd := by rw [zqW]; exact odW_3
          have zy2 : V_8 13 0 2 = V 13 0 2 := by rw [zqW]; exact odW_13 (by decide)
          have zy14 : V_8 14 0 = V 14 0 := by rw [zqW]; exact odW_r (by decide) (by decide)
          refine z_if_eq E 60 dX2_readOrder_36 rfl (by omega) (fun c_9 => ?_) (fun c_9 => ?_)
          · skip
            have zqz : ¬ 0 < zd := b2i_eq0.mp (by omega)
            have zqRet := RS_ret0 hS zqnz hi0 (by omega) zqd zqz
            refine z_iconst E dX2_readOrder_60 ?_
            exact z_zret E dX2_readOrder_61 (by first | decide | omega) (⟨rfl, hB_8, zf + zd, _, _, zqRet, zqW, fun z => absurd z (by decide)⟩)
          · skip
            have zqp : 0 < zd := Classical.byContradiction fun z => absurd (b2i_f z) (by omega)
            refine z_aload_n E dX2_readOrder_39 0 rfl rfl ?_
            refine z_callV E (ci := 2) (N := 8) (C := RX2) (T := TX2) (n := 0) (st := []) (rfl : vl 13 0 = true) rfl rfl [] (kX2_signHere l G P V_8  hB_8 (by omega)) gX2_readOrder_X2_signHere rfl ⟨rfl, rfl⟩ (by decide +kernel) ⟨Nat.le_of_ble_eq_true rfl, Nat.le_of_ble_eq_true rfl⟩ rfl rfl (Nat.le_of_ble_eq_true rfl) rfl dX2_readOrder_40 (z_dtI ?_)
            have zqs : shN (V_8 14 0) (V_8 13 0 2) (V_8 13 0 3) = shN (V 14 0) (V 13 0 2) (zf + zd) := by rw [zy14, zy2, zy3]
            have zqsr : inR (shN (V_8 14 0) (V_8 13 0 2) (V_8 13 0 3)) := by
              rw [zqs]
              have z := hB.g 14 0 (zf + zd) rfl
              rcases shN_c (V 14 0) (V 13 0 2) (zf + zd) with y | y <;> omega
            refine z_iload_n E dX2_readOrder_43 2 rfl rfl ?_
            refine z_iconst E dX2_readOrder_44 ?_
            refine z_iadd E dX2_readOrder_45 ?_
            refine z_iload_n E dX2_readOrder_46 1 rfl rfl ?_
            refine z_icmp_ge E 55 dX2_readOrder_47 rfl (by omega) (by omega) (fun c_11 => ?_) (fun c_11 => ?_)
            · skip
              refine z_bipush E dX2_readOrder_55 rfl ?_
              refine z_icmp_eq E 62 dX2_readOrder_57 rfl (by omega) (by omega) (fun c_12 => ?_) (fun c_12 => ?_)
              · skip
                have zqsep : (i + 1 < nbO (V 14 0 (V 13 0 3)) ∧ zf + zd < V 13 0 2 ∧ 44 ≤ V 14 0 (zf + zd) ∧ V 14 0 (zf + zd) ≤ 44) ∨ (i + 1 = nbO (V 14 0 (V 13 0 3)) ∧ SMC (V 14 0) (V 13 0 2) (zf + zd)) := by
                  have y := c_12
                  rw [zqs] at y
                  first | exact Or.inl ⟨by omega, (shN_is (by omega)).mp y⟩ | exact Or.inr ⟨by omega, (shN_is (by omega)).mp y⟩
                have zqlt : zf + zd < V 13 0 2 := by rcases zqsep with z | z; exact z.2.1; exact z.2.1
                refine z_aload_n E dX2_readOrder_62 0 rfl rfl ?_
                refine z_dup E dX2_readOrder_63 rfl ?_
                have hr_13 := hB_8.g 13 0 3 rfl
                refine z_get E (ci := 2) (N := 8) (C := RX2) (T := TX2) (rfl : vl 13 0 = true) rfl rfl iX2 3 (by decide) rfl f0 rfl dX2_readOrder_64 ?_
                refine z_iconst E dX2_readOrder_67 ?_
                refine z_iadd E dX2_readOrder_68 ?_
                refine z_put E (ci := 2) (N := 8) (C := RX2) (T := TX2) (ty := .int) (rfl : vl 13 0 = true) (updI (V_8 13 0) 3 ((V_8 13 0 3) + 1)) rfl rfl iX2 tyX2 tyX2_ok nmX2 3 (by decide) rfl f0 rfl rfl rfl rfl (Nat.le_of_ble_eq_true rfl) rfl dX2_readOrder_69 ?_
                obtain ⟨V14, hV14⟩ : ∃ Z : Vt, Z = up V_8 13 0 (updI (V_8 13 0) 3 ((V_8 13 0 3) + 1)) := ⟨_, rfl⟩
                rw [← hV14]
                have hB14 : BV V14 := hV14 ▸ BV_up hB_8 (by intro _; omega)
                have zqW3 : V14 = odW V (zf + zd + 1) (updI zv i (nmV (V 14 0) zf zd.toNat)) := by rw [hV14, zy3, zqW]; exact odW_p
                refine z_iinc E i dX2_readOrder_72 (L' := [some (.ref (ad G 13 0)), some (.int (iI nn)), some (.int (iI (i + 1)))]) (Nat.le_of_ble_eq_true rfl) rfl rfl ?_
                refine z_goto E 26 dX2_readOrder_75 rfl ?_
                exact ih_26 nn (i + 1) V14 hB14 (by omega) (by omega) (by omega) ⟨_, _, _, RS_next hS hi0 (by omega) zqd zqp zqsep, zqW3, (fun j a b => by
                  by_cases e : j = i
                  · rw [e, updI_s, updI_s]
                  · rw [updI_n e, updI_n e]; exact hww j a (by omega)), by omega, by omega⟩ (by omega)
              · skip
                have zqRet : rdP (V 14 0) (V 13 0 2) (V 13 0 3) 0 (zf + zd) (updI zw i (nmV (V 14 0) zf zd.toNat)) := by first | exact RS_nosep hS zqnz hi0 (by omega) zqd zqp (fun y => c_12 (by rw [zqs]; exact (shN_is (by omega)).mpr y)) | exact RS_noend hS zqnz hi0 (by omega) zqd zqp (fun y => c_12 (by rw [zqs]; exact (shN_is (by omega)).mpr y))
                refine z_iconst E dX2_readOrder_60 ?_
                exact z_zret E dX2_readOrder_61 (by first | decide | omega) (⟨rfl, hB_8, zf + zd, _, _, zqRet, zqW, fun z => absurd z (by decide)⟩)
            · skip
              refine z_bipush E dX2_readOrder_50 rfl ?_
              refine z_goto E 57 dX2_readOrder_52 rfl ?_
              refine z_icmp_eq E 62 dX2_readOrder_57 rfl (by omega) (by omega) (fun c_15 => ?_) (fun c_15 => ?_)
              · skip
                have zqsep : (i + 1 < nbO (V 14 0 (V 13 0 3)) ∧ zf + zd < V 13 0 2 ∧ 44 ≤ V 14 0 (zf + zd) ∧ V 14 0 (zf + zd) ≤ 44) ∨ (i + 1 = nbO (V 14 0 (V 13 0 3)) ∧ SMC (V 14 0) (V 13 0 2) (zf + zd)) := by
                  have y := c_15
                  rw [zqs] at y
                  first | exact Or.inl ⟨by omega, (shN_is (by omega)).mp y⟩ | exact Or.inr ⟨by omega, (shN_is (by omega)).mp y⟩
                have zqlt : zf + zd < V 13 0 2 := by rcases zqsep with z | z; exact z.2.1; exact z.2.1
                refine z_aload_n E dX2_readOrder_62 0 rfl rfl ?_
                refine z_dup E dX2_readOrder_63 rfl ?_
                have hr_16 := hB_8.g 13 0 3 rfl
                refine z_get E (ci := 2) (N := 8) (C := RX2) (T := TX2) (rfl : vl 13 0 = true) rfl rfl iX2 3 (by decide) rfl f0 rfl dX2_readOrder_64 ?_
                refine z_iconst E dX2_readOrder_67 ?_
                refine z_iadd E dX2_readOrder_68 ?_
                refine z_put E (ci := 2) (N := 8) (C := RX2) (T := TX2) (ty := .int) (rfl : vl 13 0 = true) (updI (V_8 13 0) 3 ((V_8 13 0 3) + 1)) rfl rfl iX2 tyX2 tyX2_ok nmX2 3 (by decide) rfl f0 rfl rfl rfl rfl (Nat.le_of_ble_eq_true rfl) rfl dX2_readOrder_69 ?_
                obtain ⟨V17, hV17⟩ : ∃ Z : Vt, Z = up V_8 13 0 (updI (V_8 13 0) 3 ((V_8 13 0 3) + 1)) := ⟨_, rfl⟩
                rw [← hV17]
                have hB17 : BV V17 := hV17 ▸ BV_up hB_8 (by intro _; omega)
                have zqW3 : V17 = odW V (zf + zd + 1) (updI zv i (nmV (V 14 0) zf zd.toNat)) := by rw [hV17, zy3, zqW]; exact odW_p
                refine z_iinc E i dX2_readOrder_72 (L' := [some (.ref (ad G 13 0)), some (.int (iI nn)), some (.int (iI (i + 1)))]) (Nat.le_of_ble_eq_true rfl) rfl rfl ?_
                refine z_goto E 26 dX2_readOrder_75 rfl ?_
                exact ih_26 nn (i + 1) V17 hB17 (by omega) (by omega) (by omega) ⟨_, _, _, RS_next hS hi0 (by omega) zqd zqp zqsep, zqW3, (fun j a b => by
                  by_cases e : j = i
                  · rw [e, updI_s, updI_s]
                  · rw [updI_n e, updI_n e]; exact hww j a (by omega)), by omega, by omega⟩ (by omega)
              · skip
                have zqRet : rdP (V 14 0) (V 13 0 2) (V 13 0 3) 0 (zf + zd) (updI zw i (nmV (V 14 0) zf zd.toNat)) := by first | exact RS_nosep hS zqnz hi0 (by omega) zqd zqp (fun y => c_15 (by rw [zqs]; exact (shN_is (by omega)).mpr y)) | exact RS_noend hS zqnz hi0 (by omega) zqd zqp (fun y => c_15 (by rw [zqs]; exact (shN_is (by omega)).mpr y))
                refine z_iconst E dX2_readOrder_60 ?_
                exact z_zret E dX2_readOrder_61 (by first | decide | omega) (⟨rfl, hB_8, zf + zd, _, _, zqRet, zqW, fun z => absurd z (by decide)⟩)
    exact lp_26_6 (((nbO (V 14 0 (V 13 0 3))) - 0 : Int).toNat + 1) (nbO (V 14 0 (V 13 0 3))) 0 V5 hB5 (by omega) (by omega) (by omega) ⟨V 13 0 3 + 1, fun _ => 0, V 15 0, Or.inl ⟨rfl, rfl, rfl⟩, zqV0, fun j a b => absurd b (by omega), by omega, by omega⟩ (Nat.lt_succ_self _)
  · skip
    refine z_iconst E dX2_readOrder_12 ?_
    exact z_zret E dX2_readOrder_13 (by first | decide | omega) (⟨rfl, hB, V 13 0 3, fun _ => 0, V 15 0, Or.inl ⟨by assumption, rfl, rfl⟩, odW_0.symm, fun z => absurd z (by decide)⟩)

set_option maxHeartbeats 4000000 in
set_option maxRecDepth 100000 in
theorem kX2_keepFault (l : Launch) (G : Gl) (P : Nat → Nat) (V : Vt) (a : Int) (b : Int) (c : Int) (hB : BV V) (a1 : inR a) (a2 : inR b) (a3 : inR c) : Met l yX2_keepFault wsX2_keepFault ({ frames := 0, cells := 0, slots := 0, locals := 0 }) (va_Pc [.ref (ad G 13 0), .int (iI a), .int (iI b), .int (iI c)] (Sg G P V)) (Qk G mkI (fun r P' V' => P' = P ∧ BV V' ∧ r = 0 ∧ V' = up V 13 0 (updI (updI (updI (V 13 0) 5 a) 6 b) 7 c))) 0 0 (mem G) := by
  refine z_met (cc := cX2_keepFault) (nL := 4) (ret := (some .boolean)) (own := RX2) (by decide +kernel) rfl rfl (Nat.le_of_ble_eq_true rfl) (zz_cat rfl) (L := [some (.ref (ad G 13 0)), some (.int (iI a)), some (.int (iI b)), some (.int (iI c))]) rfl ?_
  intro X E
  have iX2 : ∀ x ∈ wsX20, x ∈ wsX2_keepFault := by decide +kernel
  have f0 : Cond.fieldLink RX2 28 "SharedStates$Orders" "faultPosition" "I" ∈ wsX2_keepFault := by decide +kernel
  have f1 : Cond.fieldLink RX2 31 "SharedStates$Orders" "faultReason" "I" ∈ wsX2_keepFault := by decide +kernel
  have f2 : Cond.fieldLink RX2 34 "SharedStates$Orders" "faultCause" "I" ∈ wsX2_keepFault := by decide +kernel
  refine z_aload_n E dX2_keepFault_0 0 rfl rfl ?_
  refine z_iload_n E dX2_keepFault_1 1 rfl rfl ?_
  refine z_put E (ci := 2) (N := 8) (C := RX2) (T := TX2) (ty := .int) (rfl : vl 13 0 = true) (updI (V 13 0) 5 a) rfl rfl iX2 tyX2 tyX2_ok nmX2 5 (by decide) rfl f0 rfl rfl rfl rfl (Nat.le_of_ble_eq_true rfl) rfl dX2_keepFault_2 ?_
  obtain ⟨V1, hV1⟩ : ∃ Z : Vt, Z = up V 13 0 (updI (V 13 0) 5 a) := ⟨_, rfl⟩
  rw [← hV1]
  have hB1 : BV V1 := hV1 ▸ BV_up hB (by intro _; omega)
  refine z_aload_n E dX2_keepFault_5 0 rfl rfl ?_
  refine z_iload_n E dX2_keepFault_6 2 rfl rfl ?_
  refine z_put E (ci := 2) (N := 8) (C := RX2) (T := TX2) (ty := .int) (rfl : vl 13 0 = true) (updI (V1 13 0) 6 b) rfl rfl iX2 tyX2 tyX2_ok nmX2 6 (by decide) rfl f1 rfl rfl rfl rfl (Nat.le_of_ble_eq_true rfl) rfl dX2_keepFault_7 ?_
  obtain ⟨V2, hV2⟩ : ∃ Z : Vt, Z = up V1 13 0 (updI (V1 13 0) 6 b) := ⟨_, rfl⟩
  rw [← hV2]
  have hB2 : BV V2 := hV2 ▸ BV_up hB1 (by intro _; omega)
  refine z_aload_n E dX2_keepFault_10 0 rfl rfl ?_
  refine z_iload_n E dX2_keepFault_11 3 rfl rfl ?_
  refine z_put E (ci := 2) (N := 8) (C := RX2) (T := TX2) (ty := .int) (rfl : vl 13 0 = true) (updI (V2 13 0) 7 c) rfl rfl iX2 tyX2 tyX2_ok nmX2 7 (by decide) rfl f2 rfl rfl rfl rfl (Nat.le_of_ble_eq_true rfl) rfl dX2_keepFault_12 ?_
  obtain ⟨V3, hV3⟩ : ∃ Z : Vt, Z = up V2 13 0 (updI (V2 13 0) 7 c) := ⟨_, rfl⟩
  rw [← hV3]
  have hB3 : BV V3 := hV3 ▸ BV_up hB2 (by intro _; omega)
  refine z_iconst E dX2_keepFault_15 ?_
  exact z_zret E dX2_keepFault_16 (by first | decide | omega) (⟨rfl, hB3, rfl, by rw [hV3, hV2, hV1]; simp only [up_s, upup]⟩)

set_option maxHeartbeats 4000000 in
set_option maxRecDepth 100000 in
theorem kX2_doOrder (l : Launch) (G : Gl) (P : Nat → Nat) (V : Vt) (wn : Nat) (kind : Int) (hB : BV V) (hwn : wn < 6) (s : Int → Int) (hR : RW V wn s) (h5 : s 1 ≤ 2000000000) (a1 : inR kind) : Met l yX2_doOrder wsX2_doOrder ({ frames := 4, cells := 0, slots := 0, locals := 135 }) (va_Pc [.ref (ad G 13 0), .ref (ad G 0 wn), .int (iI kind)] (Sg G P V)) (Qk G mkI (fun r P' V' => P' = P ∧ BV V' ∧ inR r ∧ FR wn V V' ∧ ∃ s', odS s kind (V 15 0) r s' ∧ (0 ≤ r → RW V' wn s'))) 0 0 (mem G) := by
  refine z_met (cc := cX2_doOrder) (nL := 3) (ret := (some .int)) (own := RX2) (by decide +kernel) rfl rfl (Nat.le_of_ble_eq_true rfl) (zz_cat rfl) (L := [some (.ref (ad G 13 0)), some (.ref (ad G 0 wn)), some (.int (iI kind))]) rfl ?_
  intro X E
  have iX2 : ∀ x ∈ wsX20, x ∈ wsX2_doOrder := by decide +kernel
  have f0 : Cond.fieldLink RX2 15 "SharedStates$Orders" "numbers" "[I" ∈ wsX2_doOrder := by decide +kernel
  refine z_iload_n E dX2_doOrder_0 2 rfl rfl ?_
  by_cases q_1_98 : kind = 98
  · skip
    refine z_ls E 114 (by omega) dX2_doOrder_1 (by decide) (by rw [q_1_98] <;> decide) rfl ?_
    refine z_aload_n E dX2_doOrder_114 1 rfl rfl ?_
    refine z_aload_n E dX2_doOrder_115 0 rfl rfl ?_
    refine z_get E (ci := 2) (N := 8) (C := RX2) (T := TX2) (rfl : vl 13 0 = true) rfl rfl iX2 1 (by decide) rfl f0 rfl dX2_doOrder_116 ?_
    refine z_iconst E dX2_doOrder_119 ?_
    refine z_iald E (rfl : vl 15 0 = true) 4 rfl (by omega) (by omega) (by omega) dX2_doOrder_120 ?_
    have hr_2 := hB.g 15 0 0 rfl
    refine z_callV E (ci := 4) (N := 6) (C := RX4) (T := TX4) (n := 1) (st := []) (vl_w (by decide) hwn) rfl rfl [.int (iI (V 15 0 0))] (kX4_addBranch l G P V wn (V 15 0 0) hwn hB hR.hn0 hR.hn1 (by omega)) gX2_doOrder_X4_addBranch rfl ⟨rfl, rfl⟩ (by decide +kernel) ⟨Nat.le_of_ble_eq_true rfl, Nat.le_of_ble_eq_true rfl⟩ rfl rfl (Nat.le_of_ble_eq_true rfl) rfl dX2_doOrder_121 (z_exI (fun r_3 P_3 V_3 h_3 => ?_))
    obtain ⟨hP_3, hB_3, hR_3, h_3⟩ := h_3
    rw [hP_3]
    have w_q := h_3
    have w_r := hR_3
    have w_f := addBQ_fr h_3
    exact z_iret E dX2_doOrder_124 (by
        obtain ⟨s2, z1, z2⟩ := addBQ_sim hR w_q
        exact ⟨rfl, hB_3, w_r, w_f, s2, Or.inr (Or.inr (Or.inr (Or.inl ⟨by omega, z1⟩))), z2⟩)
  by_cases q_1_102 : kind = 102
  · skip
    refine z_ls E 68 (by omega) dX2_doOrder_1 (by decide) (by rw [q_1_102] <;> decide) rfl ?_
    refine z_aload_n E dX2_doOrder_68 1 rfl rfl ?_
    refine z_aload_n E dX2_doOrder_69 0 rfl rfl ?_
    refine z_get E (ci := 2) (N := 8) (C := RX2) (T := TX2) (rfl : vl 13 0 = true) rfl rfl iX2 1 (by decide) rfl f0 rfl dX2_doOrder_70 ?_
    refine z_iconst E dX2_doOrder_73 ?_
    refine z_iald E (rfl : vl 15 0 = true) 4 rfl (by omega) (by omega) (by omega) dX2_doOrder_74 ?_
    have hr_4 := hB.g 15 0 0 rfl
    refine z_aload_n E dX2_doOrder_75 0 rfl rfl ?_
    refine z_get E (ci := 2) (N := 8) (C := RX2) (T := TX2) (rfl : vl 13 0 = true) rfl rfl iX2 1 (by decide) rfl f0 rfl dX2_doOrder_76 ?_
    refine z_iconst E dX2_doOrder_79 ?_
    refine z_iald E (rfl : vl 15 0 = true) 4 rfl (by omega) (by omega) (by omega) dX2_doOrder_80 ?_
    have hr_5 := hB.g 15 0 1 rfl
    refine z_aload_n E dX2_doOrder_81 0 rfl rfl ?_
    refine z_get E (ci := 2) (N := 8) (C := RX2) (T := TX2) (rfl : vl 13 0 = true) rfl rfl iX2 1 (by decide) rfl f0 rfl dX2_doOrder_82 ?_
    refine z_iconst E dX2_doOrder_85 ?_
    refine z_iald E (rfl : vl 15 0 = true) 4 rfl (by omega) (by omega) (by omega) dX2_doOrder_86 ?_
    have hr_6 := hB.g 15 0 2 rfl
    refine z_aload_n E dX2_doOrder_87 0 rfl rfl ?_
    refine z_get E (ci := 2) (N := 8) (C := RX2) (T := TX2) (rfl : vl 13 0 = true) rfl rfl iX2 1 (by decide) rfl f0 rfl dX2_doOrder_88 ?_
    refine z_iconst E dX2_doOrder_91 ?_
    refine z_iald E (rfl : vl 15 0 = true) 4 rfl (by omega) (by omega) (by omega) dX2_doOrder_92 ?_
    have hr_7 := hB.g 15 0 3 rfl
    refine z_callV E (ci := 4) (N := 6) (C := RX4) (T := TX4) (n := 4) (st := []) (vl_w (by decide) hwn) rfl rfl [.int (iI (V 15 0 0)), .int (iI (V 15 0 1)), .int (iI (V 15 0 2)), .int (iI (V 15 0 3))] (kX4_fillCells l G P V wn (V 15 0 0) (V 15 0 1) (V 15 0 2) (V 15 0 3) hwn hB hR.hn0 hR.hn1 hR.L hR.U (by have := hR.n1; have := hR.m.s1; omega) (by omega) (by omega) (by omega) (by omega)) gX2_doOrder_X4_fillCells rfl ⟨rfl, rfl⟩ (by decide +kernel) ⟨Nat.le_of_ble_eq_true rfl, Nat.le_of_ble_eq_true rfl⟩ rfl rfl (Nat.le_of_ble_eq_true rfl) rfl dX2_doOrder_93 (z_exI (fun r_8 P_8 V_8 h_8 => ?_))
    obtain ⟨hP_8, hB_8, hR_8, hF_8, h_8⟩ := h_8
    rw [hP_8]
    have w_q := h_8
    have w_r := hR_8
    have w_f := hF_8
    exact z_iret E dX2_doOrder_96 (by
        obtain ⟨s2, z1, z2⟩ := fillQ_sim hR w_q
        exact ⟨rfl, hB_8, w_r, w_f, s2, Or.inr (Or.inl ⟨by omega, z1⟩), z2⟩)
  by_cases q_1_109 : kind = 109
  · skip
    refine z_ls E 97 (by omega) dX2_doOrder_1 (by decide) (by rw [q_1_109] <;> decide) rfl ?_
    refine z_aload_n E dX2_doOrder_97 1 rfl rfl ?_
    refine z_aload_n E dX2_doOrder_98 0 rfl rfl ?_
    refine z_get E (ci := 2) (N := 8) (C := RX2) (T := TX2) (rfl : vl 13 0 = true) rfl rfl iX2 1 (by decide) rfl f0 rfl dX2_doOrder_99 ?_
    refine z_iconst E dX2_doOrder_102 ?_
    refine z_iald E (rfl : vl 15 0 = true) 4 rfl (by omega) (by omega) (by omega) dX2_doOrder_103 ?_
    have hr_9 := hB.g 15 0 0 rfl
    refine z_aload_n E dX2_doOrder_104 0 rfl rfl ?_
    refine z_get E (ci := 2) (N := 8) (C := RX2) (T := TX2) (rfl : vl 13 0 = true) rfl rfl iX2 1 (by decide) rfl f0 rfl dX2_doOrder_105 ?_
    refine z_iconst E dX2_doOrder_108 ?_
    refine z_iald E (rfl : vl 15 0 = true) 4 rfl (by omega) (by omega) (by omega) dX2_doOrder_109 ?_
    have hr_10 := hB.g 15 0 1 rfl
    refine z_callV E (ci := 4) (N := 6) (C := RX4) (T := TX4) (n := 2) (st := []) (vl_w (by decide) hwn) rfl rfl [.int (iI (V 15 0 0)), .int (iI (V 15 0 1))] (kX4_mergeState l G P V wn (V 15 0 0) (V 15 0 1) hwn hB hR.hn0 hR.hn1 hR.L hR.U (by have := hR.n1; have := hR.m.s1; omega) hR.hcm (by omega) (by omega)) gX2_doOrder_X4_mergeState rfl ⟨rfl, rfl⟩ (by decide +kernel) ⟨Nat.le_of_ble_eq_true rfl, Nat.le_of_ble_eq_true rfl⟩ rfl rfl (Nat.le_of_ble_eq_true rfl) rfl dX2_doOrder_110 (z_exI (fun r_11 P_11 V_11 h_11 => ?_))
    obtain ⟨hP_11, hB_11, hR_11, hF_11, h_11⟩ := h_11
    rw [hP_11]
    have w_q := h_11
    have w_r := hR_11
    have w_f := hF_11
    exact z_iret E dX2_doOrder_113 (by
        obtain ⟨s2, z1, z2⟩ := mergeQ_sim hR w_q
        exact ⟨rfl, hB_11, w_r, w_f, s2, Or.inr (Or.inr (Or.inl ⟨by omega, z1⟩)), z2⟩)
  by_cases q_1_119 : kind = 119
  · skip
    refine z_ls E 44 (by omega) dX2_doOrder_1 (by decide) (by rw [q_1_119] <;> decide) rfl ?_
    refine z_aload_n E dX2_doOrder_44 1 rfl rfl ?_
    refine z_aload_n E dX2_doOrder_45 0 rfl rfl ?_
    refine z_get E (ci := 2) (N := 8) (C := RX2) (T := TX2) (rfl : vl 13 0 = true) rfl rfl iX2 1 (by decide) rfl f0 rfl dX2_doOrder_46 ?_
    refine z_iconst E dX2_doOrder_49 ?_
    refine z_iald E (rfl : vl 15 0 = true) 4 rfl (by omega) (by omega) (by omega) dX2_doOrder_50 ?_
    have hr_12 := hB.g 15 0 0 rfl
    refine z_aload_n E dX2_doOrder_51 0 rfl rfl ?_
    refine z_get E (ci := 2) (N := 8) (C := RX2) (T := TX2) (rfl : vl 13 0 = true) rfl rfl iX2 1 (by decide) rfl f0 rfl dX2_doOrder_52 ?_
    refine z_iconst E dX2_doOrder_55 ?_
    refine z_iald E (rfl : vl 15 0 = true) 4 rfl (by omega) (by omega) (by omega) dX2_doOrder_56 ?_
    have hr_13 := hB.g 15 0 1 rfl
    refine z_iconst E dX2_doOrder_57 ?_
    refine z_aload_n E dX2_doOrder_58 0 rfl rfl ?_
    refine z_get E (ci := 2) (N := 8) (C := RX2) (T := TX2) (rfl : vl 13 0 = true) rfl rfl iX2 1 (by decide) rfl f0 rfl dX2_doOrder_59 ?_
    refine z_iconst E dX2_doOrder_62 ?_
    refine z_iald E (rfl : vl 15 0 = true) 4 rfl (by omega) (by omega) (by omega) dX2_doOrder_63 ?_
    have hr_14 := hB.g 15 0 2 rfl
    refine z_callV E (ci := 4) (N := 6) (C := RX4) (T := TX4) (n := 4) (st := []) (vl_w (by decide) hwn) rfl rfl [.int (iI (V 15 0 0)), .int (iI (V 15 0 1)), .int (iI 1), .int (iI (V 15 0 2))] (kX4_fillCells l G P V wn (V 15 0 0) (V 15 0 1) 1 (V 15 0 2) hwn hB hR.hn0 hR.hn1 hR.L hR.U (by have := hR.n1; have := hR.m.s1; omega) (by omega) (by omega) (by omega) (by omega)) gX2_doOrder_X4_fillCells rfl ⟨rfl, rfl⟩ (by decide +kernel) ⟨Nat.le_of_ble_eq_true rfl, Nat.le_of_ble_eq_true rfl⟩ rfl rfl (Nat.le_of_ble_eq_true rfl) rfl dX2_doOrder_64 (z_exI (fun r_15 P_15 V_15 h_15 => ?_))
    obtain ⟨hP_15, hB_15, hR_15, hF_15, h_15⟩ := h_15
    rw [hP_15]
    have w_q := h_15
    have w_r := hR_15
    have w_f := hF_15
    exact z_iret E dX2_doOrder_67 (by
        obtain ⟨s2, z1, z2⟩ := fillQ_sim hR w_q
        exact ⟨rfl, hB_15, w_r, w_f, s2, Or.inl ⟨by omega, z1⟩, z2⟩)
  refine z_ls E 125 (by omega) dX2_doOrder_1 (by decide) (by simp only [Op.lookupswitch.offset_cons, Op.lookupswitch.offset_nil, if_neg (Ne.symm q_1_98), if_neg (Ne.symm q_1_102), if_neg (Ne.symm q_1_109), if_neg (Ne.symm q_1_119)]; rfl) rfl ?_
  refine z_aload_n E dX2_doOrder_125 1 rfl rfl ?_
  refine z_aload_n E dX2_doOrder_126 0 rfl rfl ?_
  refine z_get E (ci := 2) (N := 8) (C := RX2) (T := TX2) (rfl : vl 13 0 = true) rfl rfl iX2 1 (by decide) rfl f0 rfl dX2_doOrder_127 ?_
  refine z_iconst E dX2_doOrder_130 ?_
  refine z_iald E (rfl : vl 15 0 = true) 4 rfl (by omega) (by omega) (by omega) dX2_doOrder_131 ?_
  have hr_16 := hB.g 15 0 0 rfl
  refine z_callV E (ci := 4) (N := 6) (C := RX4) (T := TX4) (n := 1) (st := []) (vl_w (by decide) hwn) rfl rfl [.int (iI (V 15 0 0))] (kX4_forgetState l G P V wn (V 15 0 0) hwn hB hR.hn0 hR.hn1 hR.L hR.U (by omega)) gX2_doOrder_X4_forgetState rfl ⟨rfl, rfl⟩ (by decide +kernel) ⟨Nat.le_of_ble_eq_true rfl, Nat.le_of_ble_eq_true rfl⟩ rfl rfl (Nat.le_of_ble_eq_true rfl) rfl dX2_doOrder_132 (z_exI (fun r_17 P_17 V_17 h_17 => ?_))
  obtain ⟨hP_17, hB_17, hR_17, h_17⟩ := h_17
  rw [hP_17]
  have w_q := h_17
  have w_r := hR_17
  have w_f := forgetQ_fr h_17
  exact z_iret E dX2_doOrder_135 (by
      obtain ⟨s2, z1, z2⟩ := forgetQ_sim hR w_q
      exact ⟨rfl, hB_17, w_r, w_f, s2, Or.inr (Or.inr (Or.inr (Or.inr ⟨by omega, z1⟩))), z2⟩)

set_option maxHeartbeats 4000000 in
set_option maxRecDepth 100000 in
theorem kX2_doAll (l : Launch) (G : Gl) (P : Nat → Nat) (V : Vt) (wn : Nat) (hB : BV V) (hwn : wn < 6) (s : Int → Int) (hR : RW V wn s) (hs : s 1 ≤ 1900000000) (ol : 0 ≤ V 13 0 2 ∧ V 13 0 2 ≤ 60) : Met l yX2_doAll wsX2_doAll ({ frames := 5, cells := 0, slots := 0, locals := 157 }) (va_Pc [.ref (ad G 13 0), .ref (ad G 0 wn)] (Sg G P V)) (Qk G mkI (fun r P' V' => P' = P ∧ BV V' ∧ FRd wn V V' ∧ V' 13 0 2 = V 13 0 2 ∧ ∃ (n : Nat) (pos rea cau : Int) (s' : Int → Int), plE (V 14 0) (V 13 0 2) s n r pos rea cau s' ∧ (r = 1 → V' 13 0 4 = (n : Int) ∧ RW V' wn s') ∧ (r = 0 → V' 13 0 5 = pos ∧ V' 13 0 6 = rea ∧ V' 13 0 7 = cau))) 0 0 (mem G) := by
  refine z_met (cc := cX2_doAll) (nL := 5) (ret := (some .boolean)) (own := RX2) (by decide +kernel) rfl rfl (Nat.le_of_ble_eq_true rfl) (zz_cat rfl) (L := [some (.ref (ad G 13 0)), some (.ref (ad G 0 wn)), none, none, none]) rfl ?_
  intro X E
  have iX2 : ∀ x ∈ wsX20, x ∈ wsX2_doAll := by decide +kernel
  have f0 : Cond.fieldLink RX2 22 "SharedStates$Orders" "position" "I" ∈ wsX2_doAll := by decide +kernel
  have f1 : Cond.fieldLink RX2 25 "SharedStates$Orders" "done" "I" ∈ wsX2_doAll := by decide +kernel
  have f2 : Cond.fieldLink RX2 18 "SharedStates$Orders" "length" "I" ∈ wsX2_doAll := by decide +kernel
  have f3 : Cond.fieldLink RX2 9 "SharedStates$Orders" "signs" "[I" ∈ wsX2_doAll := by decide +kernel
  refine z_aload_n E dX2_doAll_0 0 rfl rfl ?_
  refine z_iconst E dX2_doAll_1 ?_
  refine z_put E (ci := 2) (N := 8) (C := RX2) (T := TX2) (ty := .int) (rfl : vl 13 0 = true) (updI (V 13 0) 3 0) rfl rfl iX2 tyX2 tyX2_ok nmX2 3 (by decide) rfl f0 rfl rfl rfl rfl (Nat.le_of_ble_eq_true rfl) rfl dX2_doAll_2 ?_
  obtain ⟨V1, hV1⟩ : ∃ Z : Vt, Z = up V 13 0 (updI (V 13 0) 3 0) := ⟨_, rfl⟩
  rw [← hV1]
  have hB1 : BV V1 := hV1 ▸ BV_up hB (by intro _; omega)
  have zqa := hV1
  refine z_aload_n E dX2_doAll_5 0 rfl rfl ?_
  refine z_iconst E dX2_doAll_6 ?_
  refine z_put E (ci := 2) (N := 8) (C := RX2) (T := TX2) (ty := .int) (rfl : vl 13 0 = true) (updI (V1 13 0) 4 0) rfl rfl iX2 tyX2 tyX2_ok nmX2 4 (by decide) rfl f1 rfl rfl rfl rfl (Nat.le_of_ble_eq_true rfl) rfl dX2_doAll_7 ?_
  obtain ⟨V2, hV2⟩ : ∃ Z : Vt, Z = up V1 13 0 (updI (V1 13 0) 4 0) := ⟨_, rfl⟩
  rw [← hV2]
  have hB2 : BV V2 := hV2 ▸ BV_up hB1 (by intro _; omega)
  have zqb := hV2
  have zqVb : V2 = up V 13 0 (updI (updI (V 13 0) 3 0) 4 0) := by rw [zqb, zqa, up_s, upup]
  refine z_iconst E dX2_doAll_10 ?_
  refine z_istore_n E dX2_doAll_11 2 rfl (L' := [some (.ref (ad G 13 0)), some (.ref (ad G 0 wn)), some (.int (iI 0)), none, none]) (Nat.le_of_ble_eq_true rfl) rfl ?_
  have lp_12_3 : ∀ (fuel : Nat) (i : Int) (Vl_12 : Vt), BV Vl_12 → (0 ≤ i) → (i ≤ 60) → (∃ (s1 : Int → Int) (f : Int), plC (V 14 0) (V 13 0 2) s (i).toNat s1 f ∧ RW Vl_12 wn s1 ∧ Vl_12 13 0 3 = f ∧ Vl_12 13 0 4 = i ∧ Vl_12 13 0 2 = V 13 0 2 ∧ FRd wn V Vl_12) → (60 - i : Int).toNat < fuel → Kz X G P Vl_12 [some (.ref (ad G 13 0)), some (.ref (ad G 0 wn)), some (.int (iI i)), none, none] 12 [] := by
    intro fuel
    induction fuel with
    | zero => intro i Vl_12 hBl_12 hi0 hi1 hst hf_12; exact absurd hf_12 (Nat.not_lt_zero _)
    | succ fuel ih_12 =>
      intro i Vl_12 hBl_12 hi0 hi1 hst hf_12
      obtain ⟨zs, zf, hC, hR1, hp3, hp4, hp2, hFd⟩ := hst
      have zqbd := plC_bd (by omega) hR.m hC
      have zq14 : Vl_12 14 0 = V 14 0 := hFd 14 0 (by omega) (by decide) (by decide)
      refine z_iload_n E dX2_doAll_12 2 rfl rfl ?_
      refine z_bipush E dX2_doAll_13 rfl ?_
      refine z_icmp_ge E 97 dX2_doAll_15 rfl (by omega) (by omega) (fun c_4 => ?_) (fun c_4 => ?_)
      · skip
        refine z_iconst E dX2_doAll_97 ?_
        exact z_zret E dX2_doAll_98 (by first | decide | omega) (⟨rfl, hBl_12, hFd, hp2, i.toNat, 0, 0, 0, zs, ⟨zs, zf, hC, Or.inl ⟨by omega, rfl, rfl⟩⟩, fun _ => ⟨by omega, hR1⟩, fun z => absurd z (by decide)⟩)
      · skip
        refine z_aload_n E dX2_doAll_18 0 rfl rfl ?_
        have hr_5 := hBl_12.g 13 0 3 rfl
        refine z_get E (ci := 2) (N := 8) (C := RX2) (T := TX2) (rfl : vl 13 0 = true) rfl rfl iX2 3 (by decide) rfl f0 rfl dX2_doAll_19 ?_
        refine z_aload_n E dX2_doAll_22 0 rfl rfl ?_
        have hr_6 := hBl_12.g 13 0 2 rfl
        refine z_get E (ci := 2) (N := 8) (C := RX2) (T := TX2) (rfl : vl 13 0 = true) rfl rfl iX2 2 (by decide) rfl f2 rfl dX2_doAll_23 ?_
        refine z_icmp_ge E 97 dX2_doAll_26 rfl (by omega) (by omega) (fun c_7 => ?_) (fun c_7 => ?_)
        · skip
          refine z_iconst E dX2_doAll_97 ?_
          exact z_zret E dX2_doAll_98 (by first | decide | omega) (⟨rfl, hBl_12, hFd, hp2, i.toNat, 0, 0, 0, zs, ⟨zs, zf, hC, Or.inl ⟨by omega, rfl, rfl⟩⟩, fun _ => ⟨by omega, hR1⟩, fun z => absurd z (by decide)⟩)
        · skip
          refine z_aload_n E dX2_doAll_29 0 rfl rfl ?_
          refine z_get E (ci := 2) (N := 8) (C := RX2) (T := TX2) (rfl : vl 13 0 = true) rfl rfl iX2 3 (by decide) rfl f0 rfl dX2_doAll_30 ?_
          refine z_istore_n E dX2_doAll_33 3 rfl (L' := [some (.ref (ad G 13 0)), some (.ref (ad G 0 wn)), some (.int (iI i)), some (.int (iI (Vl_12 13 0 3))), none]) (Nat.le_of_ble_eq_true rfl) rfl ?_
          refine z_aload_n E dX2_doAll_34 0 rfl rfl ?_
          refine z_callV E (ci := 2) (N := 8) (C := RX2) (T := TX2) (n := 0) (st := []) (rfl : vl 13 0 = true) rfl rfl [] (kX2_readOrder l G P Vl_12  hBl_12 (by omega)) gX2_doAll_X2_readOrder rfl ⟨rfl, rfl⟩ (by decide +kernel) ⟨Nat.le_of_ble_eq_true rfl, Nat.le_of_ble_eq_true rfl⟩ rfl rfl (Nat.le_of_ble_eq_true rfl) rfl dX2_doAll_35 (z_exI (fun r_8 P_8 V_8 h_8 => ?_))
          obtain ⟨hP_8, hB_8, h_8⟩ := h_8
          rw [hP_8]
          obtain ⟨zg, zw, zv, zqrd, zqW, zqw⟩ := h_8
          rw [zq14, hp2, hp3] at zqrd
          rw [zq14, hp3] at zqw
          have zqrb := rdP_bd (by omega) zqrd
          have zy3 : V_8 13 0 3 = zg := by rw [zqW]; exact odW_3
          have zy2 : V_8 13 0 2 = V 13 0 2 := by rw [zqW, odW_13 (by decide)]; exact hp2
          have zy4 : V_8 13 0 4 = i := by rw [zqW, odW_13 (by decide)]; exact hp4
          have zy14 : V_8 14 0 = V 14 0 := by rw [zqW, odW_r (by decide) (by decide)]; exact zq14
          have zy15 : V_8 15 0 = zv := by rw [zqW]; exact odW_15
          have zyR : RW V_8 wn zs := hR1.cg (fun r hr => by rw [zqW, odW_r (by omega) (by omega)])
          have zyF : FRd wn V V_8 := fun r w' z z1 z2 => by rw [zqW, odW_r z1 z2]; exact hFd r w' z z1 z2
          refine z_if_ne E 54 dX2_doAll_38 rfl (by omega) (fun c_9 => ?_) (fun c_9 => ?_)
          · skip
            have zr1 := zqrb.2.2.1.resolve_left c_9
            have zqrd1 : rdP (V 14 0) (V 13 0 2) zf 1 zg zw := by rw [zr1] at zqrd; exact zqrd
            have zrg := zqrb.2.2.2 zr1
            refine z_aload_n E dX2_doAll_54 0 rfl rfl ?_
            refine z_aload_n E dX2_doAll_55 1 rfl rfl ?_
            refine z_aload_n E dX2_doAll_56 0 rfl rfl ?_
            refine z_get E (ci := 2) (N := 8) (C := RX2) (T := TX2) (rfl : vl 13 0 = true) rfl rfl iX2 0 (by decide) rfl f3 rfl dX2_doAll_57 ?_
            refine z_iload_n E dX2_doAll_60 3 rfl rfl ?_
            refine z_iald E (rfl : vl 14 0 = true) 60 rfl (by omega) (by omega) (by omega) dX2_doAll_61 ?_
            have hr_10 := hB_8.g 14 0 (Vl_12 13 0 3) rfl
            refine z_callV E (ci := 2) (N := 8) (C := RX2) (T := TX2) (n := 2) (st := []) (rfl : vl 13 0 = true) rfl rfl [.ref (ad G 0 wn), .int (iI (V_8 14 0 (Vl_12 13 0 3)))] (kX2_doOrder l G P V_8 wn (V_8 14 0 (Vl_12 13 0 3)) hB_8 hwn zs zyR (by omega) (by omega)) gX2_doAll_X2_doOrder rfl ⟨rfl, rfl⟩ (by decide +kernel) ⟨Nat.le_of_ble_eq_true rfl, Nat.le_of_ble_eq_true rfl⟩ rfl rfl (Nat.le_of_ble_eq_true rfl) rfl dX2_doAll_62 (z_exI (fun r_11 P_11 V_11 h_11 => ?_))
            obtain ⟨hP_11, hB_11, hR_11, hF_11, h_11⟩ := h_11
            rw [hP_11]
            obtain ⟨zs2, zqo, zqR⟩ := h_11
            rw [zy14, hp3, zy15] at zqo
            have zqo2 := odS_w (zqrb.2.2.2 zr1).2 (fun j a b => zqw zr1 j a b) zqo
            have zm3 : V_11 13 0 3 = zg := by rw [hF_11 13 0 (by omega)]; exact zy3
            have zm2 : V_11 13 0 2 = V 13 0 2 := by rw [hF_11 13 0 (by omega)]; exact zy2
            have zm4 : V_11 13 0 4 = i := by rw [hF_11 13 0 (by omega)]; exact zy4
            have zmF : FRd wn V V_11 := fun r w' z z1 z2 => by rw [hF_11 r w' z]; exact zyF r w' z z1 z2
            have zrR := hR_11
            refine z_istore E dX2_doAll_65 (L' := [some (.ref (ad G 13 0)), some (.ref (ad G 0 wn)), some (.int (iI i)), some (.int (iI (Vl_12 13 0 3))), some (.int (iI r_11))]) (Nat.le_of_ble_eq_true rfl) rfl ?_
            refine z_iload E dX2_doAll_67 rfl ?_
            refine z_if_ge E 81 dX2_doAll_69 rfl (by omega) (fun c_12 => ?_) (fun c_12 => ?_)
            · skip
              have zr2 := c_12
              refine z_aload_n E dX2_doAll_81 0 rfl rfl ?_
              refine z_dup E dX2_doAll_82 rfl ?_
              have hr_13 := hB_11.g 13 0 4 rfl
              refine z_get E (ci := 2) (N := 8) (C := RX2) (T := TX2) (rfl : vl 13 0 = true) rfl rfl iX2 4 (by decide) rfl f1 rfl dX2_doAll_83 ?_
              refine z_iconst E dX2_doAll_86 ?_
              refine z_iadd E dX2_doAll_87 ?_
              refine z_put E (ci := 2) (N := 8) (C := RX2) (T := TX2) (ty := .int) (rfl : vl 13 0 = true) (updI (V_11 13 0) 4 ((V_11 13 0 4) + 1)) rfl rfl iX2 tyX2 tyX2_ok nmX2 4 (by decide) rfl f1 rfl rfl rfl rfl (Nat.le_of_ble_eq_true rfl) rfl dX2_doAll_88 ?_
              obtain ⟨V14, hV14⟩ : ∃ Z : Vt, Z = up V_11 13 0 (updI (V_11 13 0) 4 ((V_11 13 0 4) + 1)) := ⟨_, rfl⟩
              rw [← hV14]
              have hB14 : BV V14 := hV14 ▸ BV_up hB_11 (by intro _; omega)
              have zqd := hV14
              refine z_iinc E i dX2_doAll_91 (L' := [some (.ref (ad G 13 0)), some (.ref (ad G 0 wn)), some (.int (iI (i + 1))), some (.int (iI (Vl_12 13 0 3))), some (.int (iI r_11))]) (Nat.le_of_ble_eq_true rfl) rfl rfl ?_
              refine z_goto E 12 dX2_doAll_94 rfl ?_
              refine Kz.drop 3 (L' := [some (.ref (ad G 13 0)), some (.ref (ad G 0 wn)), some (.int (iI (i + 1))), none, some (.int (iI r_11))]) rfl ?_
              refine Kz.drop 4 (L' := [some (.ref (ad G 13 0)), some (.ref (ad G 0 wn)), some (.int (iI (i + 1))), none, none]) rfl ?_
              exact ih_12 (i + 1) V14 hB14 (by omega) (by omega) ⟨zs2, zg, (by rw [show (i + 1).toNat = i.toNat + 1 by omega]; exact ⟨zs, zf, zw, _, hC, by omega, zqrd1, zqo2, zr2⟩), (zqR zr2).cg (fun r hr => by rw [zqd, up_r (by omega)]), by rw [zqd, up_s, updI_n (by decide)]; exact zm3, by rw [zqd, up_s, updI_s, zm4], by rw [zqd, up_s, updI_n (by decide)]; exact zm2, fun r w' z z1 z2 => by rw [zqd, up_r z1]; exact zmF r w' z z1 z2⟩ (by omega)
            · skip
              refine z_aload_n E dX2_doAll_72 0 rfl rfl ?_
              refine z_iload_n E dX2_doAll_73 3 rfl rfl ?_
              refine z_iconst E dX2_doAll_74 ?_
              refine z_iload E dX2_doAll_75 rfl ?_
              refine z_callV E (ci := 2) (N := 8) (C := RX2) (T := TX2) (n := 3) (st := []) (rfl : vl 13 0 = true) rfl rfl [.int (iI (Vl_12 13 0 3)), .int (iI 2), .int (iI r_11)] (kX2_keepFault l G P V_11 (Vl_12 13 0 3) 2 r_11 hB_11 (by omega) (by omega) (by omega)) gX2_doAll_X2_keepFault rfl ⟨rfl, rfl⟩ (by decide +kernel) ⟨Nat.le_of_ble_eq_true rfl, Nat.le_of_ble_eq_true rfl⟩ rfl rfl (Nat.le_of_ble_eq_true rfl) rfl dX2_doAll_77 (z_exI (fun r_15 P_15 V_15 h_15 => ?_))
              obtain ⟨hP_15, hB_15, h_15⟩ := h_15
              rw [hP_15]
              obtain ⟨zk0, zkV⟩ := h_15
              exact z_zret E dX2_doAll_80 (by first | decide | omega) (⟨rfl, hB_15, fun r w' z z1 z2 => by rw [zkV, up_r z1]; exact zmF r w' z z1 z2, by rw [zkV, up_s, updI_n (by decide), updI_n (by decide), updI_n (by decide)]; exact zm2, i.toNat, _, _, _, zs2, ⟨zs, zf, hC, Or.inr (Or.inr ⟨by omega, zk0, rfl, rfl, zg, zw, zqrd1, zqo2, by omega⟩)⟩, fun z => absurd z (by omega), fun _ => ⟨by rw [zkV, up_s, updI_n (by decide), updI_n (by decide), updI_s]; exact hp3, by rw [zkV, up_s, updI_n (by decide), updI_s], by rw [zkV, up_s, updI_s]⟩⟩)
          · skip
            have zqrd0 : rdP (V 14 0) (V 13 0 2) zf 0 zg zw := by have e := c_9; rw [e] at zqrd; exact zqrd
            refine z_aload_n E dX2_doAll_41 0 rfl rfl ?_
            refine z_iload_n E dX2_doAll_42 3 rfl rfl ?_
            refine z_iconst E dX2_doAll_43 ?_
            refine z_aload_n E dX2_doAll_44 0 rfl rfl ?_
            have hr_16 := hB_8.g 13 0 3 rfl
            refine z_get E (ci := 2) (N := 8) (C := RX2) (T := TX2) (rfl : vl 13 0 = true) rfl rfl iX2 3 (by decide) rfl f0 rfl dX2_doAll_45 ?_
            refine z_iload_n E dX2_doAll_48 3 rfl rfl ?_
            refine z_isub E dX2_doAll_49 ?_
            refine z_callV E (ci := 2) (N := 8) (C := RX2) (T := TX2) (n := 3) (st := []) (rfl : vl 13 0 = true) rfl rfl [.int (iI (Vl_12 13 0 3)), .int (iI 1), .int (iI ((V_8 13 0 3) - (Vl_12 13 0 3)))] (kX2_keepFault l G P V_8 (Vl_12 13 0 3) 1 ((V_8 13 0 3) - (Vl_12 13 0 3)) hB_8 (by omega) (by omega) (by omega)) gX2_doAll_X2_keepFault rfl ⟨rfl, rfl⟩ (by decide +kernel) ⟨Nat.le_of_ble_eq_true rfl, Nat.le_of_ble_eq_true rfl⟩ rfl rfl (Nat.le_of_ble_eq_true rfl) rfl dX2_doAll_50 (z_exI (fun r_17 P_17 V_17 h_17 => ?_))
            obtain ⟨hP_17, hB_17, h_17⟩ := h_17
            rw [hP_17]
            obtain ⟨zk0, zkV⟩ := h_17
            exact z_zret E dX2_doAll_53 (by first | decide | omega) (⟨rfl, hB_17, fun r w' z z1 z2 => by rw [zkV, up_r z1]; exact zyF r w' z z1 z2, by rw [zkV, up_s, updI_n (by decide), updI_n (by decide), updI_n (by decide)]; exact zy2, i.toNat, _, _, _, zs, ⟨zs, zf, hC, Or.inr (Or.inl ⟨by omega, zk0, rfl, rfl, zg, zw, zqrd0, rfl, rfl⟩)⟩, fun z => absurd z (by omega), fun _ => ⟨by rw [zkV, up_s, updI_n (by decide), updI_n (by decide), updI_s]; exact hp3, by rw [zkV, up_s, updI_n (by decide), updI_s], by rw [zkV, up_s, updI_s]; omega⟩⟩)
  exact lp_12_3 ((60 - 0 : Int).toNat + 1) 0 V2 hB2 (by omega) (by omega) ⟨s, 0, ⟨rfl, rfl⟩, hR.cg (fun r hr => by rw [zqVb, up_r (by omega)]), by rw [zqVb, up_s, updI_n (by decide), updI_s], by rw [zqVb, up_s, updI_s], by rw [zqVb, up_s, updI_n (by decide), updI_n (by decide)], fun r w' z z1 z2 => by rw [zqVb, up_r z1]⟩ (Nat.lt_succ_self _)

set_option maxHeartbeats 4000000 in
set_option maxRecDepth 100000 in
theorem kX5_fault (l : Launch) (G : Gl) (P : Nat → Nat) (V : Vt) (what : Int) (hw : P 0 < 6) (hB : BV V) (hw1 : P 1 < 6) (huw : P 0 ≠ P 1) (s : Int → Int) (hR : RW V (P 0) s) (hs : s 1 ≤ 1900000000) (ol : 0 ≤ V 13 0 2 ∧ V 13 0 2 ≤ 60) (a1 : inR what) : Met l yX5_fault wsX5_fault ({ frames := 6, cells := 0, slots := 0, locals := 181 }) (va_Pc [.ref (ad G 10 0), .int (iI what)] (Sg G P V)) (Qk G mkI (fun r P' V' => P' = P ∧ BV V' ∧ ((¬ (0 ≤ what ∧ what < 3) ∧ r = -1000001 ∧ V' = V) ∨ ((0 ≤ what ∧ what < 3) ∧ FRd (P 1) V V' ∧ V' 13 0 2 = V 13 0 2 ∧ ∃ (n : Nat) (res pos rea cau : Int) (s' : Int → Int), plE (V 14 0) (V 13 0 2) s n res pos rea cau s' ∧ ((res = 1 ∧ r = -1000004) ∨ (res = 0 ∧ r = if what = 0 then pos else if what = 1 then rea else cau)))))) 0 0 (mem G) := by
  refine z_met (cc := cX5_fault) (nL := 2) (ret := (some .int)) (own := RX5) (by decide +kernel) rfl rfl (Nat.le_of_ble_eq_true rfl) (zz_cat rfl) (L := [some (.ref (ad G 10 0)), some (.int (iI what))]) rfl ?_
  intro X E
  have iX2 : ∀ x ∈ wsX20, x ∈ wsX5_fault := by decide +kernel
  have iX5 : ∀ x ∈ wsX50, x ∈ wsX5_fault := by decide +kernel
  have f0 : Cond.fieldLink RX5 29 "SharedStates" "orders" "LSharedStates$Orders;" ∈ wsX5_fault := by decide +kernel
  have f1 : Cond.fieldLink RX5 223 "SharedStates$Orders" "faultPosition" "I" ∈ wsX5_fault := by decide +kernel
  have f2 : Cond.fieldLink RX5 226 "SharedStates$Orders" "faultReason" "I" ∈ wsX5_fault := by decide +kernel
  have f3 : Cond.fieldLink RX5 229 "SharedStates$Orders" "faultCause" "I" ∈ wsX5_fault := by decide +kernel
  have f4 : Cond.constant RX5 104 (-1000004) ∈ wsX5_fault := by decide +kernel
  have f5 : Cond.constant RX5 85 (-1000001) ∈ wsX5_fault := by decide +kernel
  refine z_iload_n E dX5_fault_0 1 rfl rfl ?_
  refine z_iconst E dX5_fault_1 ?_
  refine z_callS E (n := 2) (st := []) [.int (iI what), .int (iI 3)] (kX5_isIndex l G P V what 3 (by omega) (by omega)) gX5_fault_X5_isIndex rfl ⟨rfl, rfl⟩ (by decide +kernel) ⟨Nat.le_of_ble_eq_true rfl, Nat.le_of_ble_eq_true rfl⟩ rfl rfl (Nat.le_of_ble_eq_true rfl) rfl dX5_fault_2 (z_dtI ?_)
  refine z_ifne_b E 11 dX5_fault_5 rfl (fun c_2 => ?_) (fun c_2 => ?_)
  · skip
    refine z_aload_n E dX5_fault_11 0 rfl rfl ?_
    refine z_get E (ci := 5) (N := 4) (C := RX5) (T := TX5) (rfl : vl 10 0 = true) rfl rfl iX5 3 (by decide) rfl f0 rfl dX5_fault_12 ?_
    refine z_aload_n E dX5_fault_15 0 rfl rfl ?_
    refine z_callV E (ci := 5) (N := 4) (C := RX5) (T := TX5) (n := 0) (st := [.ref (ad G 13 0)]) (rfl : vl 10 0 = true) rfl rfl [] (kX5_startTrial l G P V  hw hB hw1 huw) gX5_fault_X5_startTrial rfl ⟨rfl, rfl⟩ (by decide +kernel) ⟨Nat.le_of_ble_eq_true rfl, Nat.le_of_ble_eq_true rfl⟩ rfl rfl (Nat.le_of_ble_eq_true rfl) rfl dX5_fault_16 (z_exR (fun r_3 P_3 V_3 h_3 => ?_))
    obtain ⟨hr_3, hP_3, hB_3, h_3⟩ := h_3
    rw [hP_3, hr_3, Int.toNat_natCast]
    have w_s := h_3
    have w_R : RW V_3 (P 1) s := hR.cg (fun r hr => by rw [w_s]; exact cpW_s hr)
    have w_14 : V_3 14 0 = V 14 0 := by rw [w_s]; exact cpW_9 (by decide)
    have w_13 : V_3 13 0 = V 13 0 := by rw [w_s]; exact cpW_9 (by decide)
    have w_F : FRd (P 1) V V_3 := by rw [w_s]; exact FRd_cp huw
    refine z_callV E (ci := 2) (N := 8) (C := RX2) (T := TX2) (n := 1) (st := []) (rfl : vl 13 0 = true) rfl rfl [.ref (ad G 0 (P 1))] (kX2_doAll l G P V_3 (P 1) hB_3 hw1 s w_R hs (by rw [w_13]; exact ol)) gX5_fault_X2_doAll rfl ⟨rfl, rfl⟩ (by decide +kernel) ⟨Nat.le_of_ble_eq_true rfl, Nat.le_of_ble_eq_true rfl⟩ rfl rfl (Nat.le_of_ble_eq_true rfl) rfl dX5_fault_19 (z_exI (fun r_4 P_4 V_4 h_4 => ?_))
    obtain ⟨hP_4, hB_4, h_4⟩ := h_4
    rw [hP_4]
    obtain ⟨hFd, hl2, zn, zpos, zrea, zcau, zs2, zqE, zq1, zq0⟩ := h_4
    rw [w_14, w_13] at zqE
    rw [w_13] at hl2
    have zFF := w_F.tr hFd
    have zqb := plE_MV (by omega) hR.m zqE
    refine z_if_eq E 28 dX5_fault_22 rfl (by omega) (fun c_5 => ?_) (fun c_5 => ?_)
    · skip
      refine z_iload_n E dX5_fault_28 1 rfl rfl ?_
      by_cases q_6_0 : what = 0
      · skip
        refine z_ls E 56 (by omega) dX5_fault_29 (by decide) (by rw [q_6_0] <;> decide) rfl ?_
        refine z_aload_n E dX5_fault_56 0 rfl rfl ?_
        refine z_get E (ci := 5) (N := 4) (C := RX5) (T := TX5) (rfl : vl 10 0 = true) rfl rfl iX5 3 (by decide) rfl f0 rfl dX5_fault_57 ?_
        have hr_7 := hB_4.g 13 0 5 rfl
        refine z_get E (ci := 2) (N := 8) (C := RX2) (T := TX2) (rfl : vl 13 0 = true) rfl rfl iX2 5 (by decide) rfl f1 rfl dX5_fault_60 ?_
        exact z_iret E dX5_fault_63 (by
            have z := zq0 (by omega)
            exact ⟨rfl, hB_4, Or.inr ⟨by assumption, zFF, hl2, zn, _, _, _, _, zs2, zqE, Or.inr ⟨by omega, by rw [if_pos (by omega)]; exact z.1⟩⟩⟩)
      by_cases q_6_1 : what = 1
      · skip
        refine z_ls E 64 (by omega) dX5_fault_29 (by decide) (by rw [q_6_1] <;> decide) rfl ?_
        refine z_aload_n E dX5_fault_64 0 rfl rfl ?_
        refine z_get E (ci := 5) (N := 4) (C := RX5) (T := TX5) (rfl : vl 10 0 = true) rfl rfl iX5 3 (by decide) rfl f0 rfl dX5_fault_65 ?_
        have hr_8 := hB_4.g 13 0 6 rfl
        refine z_get E (ci := 2) (N := 8) (C := RX2) (T := TX2) (rfl : vl 13 0 = true) rfl rfl iX2 6 (by decide) rfl f2 rfl dX5_fault_68 ?_
        exact z_iret E dX5_fault_71 (by
            have z := zq0 (by omega)
            exact ⟨rfl, hB_4, Or.inr ⟨by assumption, zFF, hl2, zn, _, _, _, _, zs2, zqE, Or.inr ⟨by omega, by rw [if_neg (by omega), if_pos (by omega)]; exact z.2.1⟩⟩⟩)
      refine z_ls E 72 (by omega) dX5_fault_29 (by decide) (by simp only [Op.lookupswitch.offset_cons, Op.lookupswitch.offset_nil, if_neg (Ne.symm q_6_0), if_neg (Ne.symm q_6_1)]; rfl) rfl ?_
      refine z_aload_n E dX5_fault_72 0 rfl rfl ?_
      refine z_get E (ci := 5) (N := 4) (C := RX5) (T := TX5) (rfl : vl 10 0 = true) rfl rfl iX5 3 (by decide) rfl f0 rfl dX5_fault_73 ?_
      have hr_9 := hB_4.g 13 0 7 rfl
      refine z_get E (ci := 2) (N := 8) (C := RX2) (T := TX2) (rfl : vl 13 0 = true) rfl rfl iX2 7 (by decide) rfl f3 rfl dX5_fault_76 ?_
      exact z_iret E dX5_fault_79 (by
          have z := zq0 (by omega)
          exact ⟨rfl, hB_4, Or.inr ⟨by assumption, zFF, hl2, zn, _, _, _, _, zs2, zqE, Or.inr ⟨by omega, by rw [if_neg (by omega), if_neg (by omega)]; exact z.2.2⟩⟩⟩)
    · skip
      refine z_ldc E (-1000004) f4 rfl dX5_fault_25 ?_
      exact z_iret E dX5_fault_27 (⟨rfl, hB_4, Or.inr ⟨by assumption, zFF, hl2, zn, _, _, _, _, zs2, zqE, Or.inl ⟨by omega, rfl⟩⟩⟩)
  · skip
    refine z_ldc E (-1000001) f5 rfl dX5_fault_8 ?_
    exact z_iret E dX5_fault_10 (⟨rfl, hB, Or.inl ⟨by assumption, rfl, rfl⟩⟩)

set_option maxHeartbeats 4000000 in
set_option maxRecDepth 100000 in
theorem kX5_play (l : Launch) (G : Gl) (P : Nat → Nat) (V : Vt) (hw : P 0 < 6) (hB : BV V) (hw1 : P 1 < 6) (huw : P 0 ≠ P 1) (s : Int → Int) (hR : RW V (P 0) s) (hs : s 1 ≤ 1900000000) (ol : 0 ≤ V 13 0 2 ∧ V 13 0 2 ≤ 60) (ho : 0 ≤ V 11 0 1 ∧ V 11 0 1 < 4) (hz : 0 ≤ V 11 0 2 ∧ V 11 0 2 ≤ 4) : Met l yX5_play wsX5_play ({ frames := 6, cells := 0, slots := 0, locals := 181 }) (va_Pc [.ref (ad G 10 0)] (Sg G P V)) (Qk G mkI (fun r P' V' => BV V' ∧ ∃ (Vx : Vt), FRd (P 1) V Vx ∧ Vx 13 0 2 = V 13 0 2 ∧ ∃ (n : Nat) (res pos rea cau : Int) (s' : Int → Int), plE (V 14 0) (V 13 0 2) s n res pos rea cau s' ∧ ((res = 1 ∧ r = (n : Int) ∧ RW Vx (P 1) s') ∨ (res = 0 ∧ r = -1000002)) ∧ KP r P Vx P' V')) 0 0 (mem G) := by
  refine z_met (cc := cX5_play) (nL := 1) (ret := (some .int)) (own := RX5) (by decide +kernel) rfl rfl (Nat.le_of_ble_eq_true rfl) (zz_cat rfl) (L := [some (.ref (ad G 10 0))]) rfl ?_
  intro X E
  have iX2 : ∀ x ∈ wsX20, x ∈ wsX5_play := by decide +kernel
  have iX5 : ∀ x ∈ wsX50, x ∈ wsX5_play := by decide +kernel
  have f0 : Cond.fieldLink RX5 29 "SharedStates" "orders" "LSharedStates$Orders;" ∈ wsX5_play := by decide +kernel
  have f1 : Cond.constant RX5 184 (-1000002) ∈ wsX5_play := by decide +kernel
  have f2 : Cond.fieldLink RX5 232 "SharedStates$Orders" "done" "I" ∈ wsX5_play := by decide +kernel
  refine z_aload_n E dX5_play_0 0 rfl rfl ?_
  refine z_aload_n E dX5_play_1 0 rfl rfl ?_
  refine z_get E (ci := 5) (N := 4) (C := RX5) (T := TX5) (rfl : vl 10 0 = true) rfl rfl iX5 3 (by decide) rfl f0 rfl dX5_play_2 ?_
  refine z_aload_n E dX5_play_5 0 rfl rfl ?_
  refine z_callV E (ci := 5) (N := 4) (C := RX5) (T := TX5) (n := 0) (st := [.ref (ad G 13 0), .ref (ad G 10 0)]) (rfl : vl 10 0 = true) rfl rfl [] (kX5_startTrial l G P V  hw hB hw1 huw) gX5_play_X5_startTrial rfl ⟨rfl, rfl⟩ (by decide +kernel) ⟨Nat.le_of_ble_eq_true rfl, Nat.le_of_ble_eq_true rfl⟩ rfl rfl (Nat.le_of_ble_eq_true rfl) rfl dX5_play_6 (z_exR (fun r_1 P_1 V_1 h_1 => ?_))
  obtain ⟨hr_1, hP_1, hB_1, h_1⟩ := h_1
  rw [hP_1, hr_1, Int.toNat_natCast]
  have w_s := h_1
  have w_R : RW V_1 (P 1) s := hR.cg (fun r hr => by rw [w_s]; exact cpW_s hr)
  have w_14 : V_1 14 0 = V 14 0 := by rw [w_s]; exact cpW_9 (by decide)
  have w_13 : V_1 13 0 = V 13 0 := by rw [w_s]; exact cpW_9 (by decide)
  have w_F : FRd (P 1) V V_1 := by rw [w_s]; exact FRd_cp huw
  refine z_callV E (ci := 2) (N := 8) (C := RX2) (T := TX2) (n := 1) (st := [.ref (ad G 10 0)]) (rfl : vl 13 0 = true) rfl rfl [.ref (ad G 0 (P 1))] (kX2_doAll l G P V_1 (P 1) hB_1 hw1 s w_R hs (by rw [w_13]; exact ol)) gX5_play_X2_doAll rfl ⟨rfl, rfl⟩ (by decide +kernel) ⟨Nat.le_of_ble_eq_true rfl, Nat.le_of_ble_eq_true rfl⟩ rfl rfl (Nat.le_of_ble_eq_true rfl) rfl dX5_play_9 (z_exI (fun r_2 P_2 V_2 h_2 => ?_))
  obtain ⟨hP_2, hB_2, h_2⟩ := h_2
  rw [hP_2]
  obtain ⟨hFd, hl2, zn, zpos, zrea, zcau, zs2, zqE, zq1, zq0⟩ := h_2
  rw [w_14, w_13] at zqE
  rw [w_13] at hl2
  have zFF := w_F.tr hFd
  have zqb := plE_MV (by omega) hR.m zqE
  refine z_if_eq E 25 dX5_play_12 rfl (by omega) (fun c_3 => ?_) (fun c_3 => ?_)
  · skip
    have zr0 := c_3
    refine z_ldc E (-1000002) f1 rfl dX5_play_25 ?_
    refine z_callV E (ci := 5) (N := 4) (C := RX5) (T := TX5) (n := 1) (st := []) (rfl : vl 10 0 = true) rfl rfl [.int (iI (-1000002))] (kX5_keepTrial l G P V_2 (-1000002) hw hB_2 hw1 (by rw [zFF 11 0 (by omega) (by decide) (by decide)]; exact ho) (by rw [zFF 11 0 (by omega) (by decide) (by decide)]; exact hz) (by omega)) gX5_play_X5_keepTrial rfl ⟨rfl, rfl⟩ (by decide +kernel) ⟨Nat.le_of_ble_eq_true rfl, Nat.le_of_ble_eq_true rfl⟩ rfl rfl (Nat.le_of_ble_eq_true rfl) rfl dX5_play_27 (z_exI (fun r_4 P_4 V_4 h_4 => ?_))
    obtain ⟨hB_4, hr_4, h_4⟩ := h_4
    have w_k := h_4
    have w_r := hr_4
    exact z_iret E dX5_play_30 (by first | exact ⟨hB_4, _, zFF, hl2, zn, _, _, _, _, zs2, zqE, Or.inl ⟨zr1, by omega, (zq1 zr1).2⟩, by rw [w_r]; exact w_k⟩ | exact ⟨hB_4, _, zFF, hl2, zn, _, _, _, _, zs2, zqE, Or.inr ⟨zr0, w_r⟩, by rw [w_r]; exact w_k⟩)
  · skip
    have zr1 := zqb.2.2.2.resolve_left c_3
    have zn4 := (zq1 zr1).1
    refine z_aload_n E dX5_play_15 0 rfl rfl ?_
    refine z_get E (ci := 5) (N := 4) (C := RX5) (T := TX5) (rfl : vl 10 0 = true) rfl rfl iX5 3 (by decide) rfl f0 rfl dX5_play_16 ?_
    have hr_5 := hB_2.g 13 0 4 rfl
    refine z_get E (ci := 2) (N := 8) (C := RX2) (T := TX2) (rfl : vl 13 0 = true) rfl rfl iX2 4 (by decide) rfl f2 rfl dX5_play_19 ?_
    refine z_goto E 27 dX5_play_22 rfl ?_
    refine z_callV E (ci := 5) (N := 4) (C := RX5) (T := TX5) (n := 1) (st := []) (rfl : vl 10 0 = true) rfl rfl [.int (iI (V_2 13 0 4))] (kX5_keepTrial l G P V_2 (V_2 13 0 4) hw hB_2 hw1 (by rw [zFF 11 0 (by omega) (by decide) (by decide)]; exact ho) (by rw [zFF 11 0 (by omega) (by decide) (by decide)]; exact hz) (by omega)) gX5_play_X5_keepTrial rfl ⟨rfl, rfl⟩ (by decide +kernel) ⟨Nat.le_of_ble_eq_true rfl, Nat.le_of_ble_eq_true rfl⟩ rfl rfl (Nat.le_of_ble_eq_true rfl) rfl dX5_play_27 (z_exI (fun r_6 P_6 V_6 h_6 => ?_))
    obtain ⟨hB_6, hr_6, h_6⟩ := h_6
    have w_k := h_6
    have w_r := hr_6
    exact z_iret E dX5_play_30 (by first | exact ⟨hB_6, _, zFF, hl2, zn, _, _, _, _, zs2, zqE, Or.inl ⟨zr1, by omega, (zq1 zr1).2⟩, by rw [w_r]; exact w_k⟩ | exact ⟨hB_6, _, zFF, hl2, zn, _, _, _, _, zs2, zqE, Or.inr ⟨zr0, w_r⟩, by rw [w_r]; exact w_k⟩)
