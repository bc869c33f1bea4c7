set_option maxHeartbeats 4000000 in
set_option maxRecDepth 100000 in
theorem kX6_calls (l : Launch) (G : Gl) (P : Nat → Nat) (V : Vt) (hB : BV V) (hM : MV (V 17 0)) (hq : 0 ≤ V 16 0 3 ∧ V 16 0 3 ≤ 4) (hrun : ¬ V 16 0 4 = 0) (hs : V 17 0 1 ≤ 2000000000) : Met l yX6_calls wsX6_calls ({ frames := 8, cells := 0, slots := 0, locals := 183 }) (va_Pc [.ref (ad G 16 0)] (Sg G P V)) (Qk G mkI (fun r P' V' => P' = P ∧ BV V' ∧ inR r ∧ (∀ r0 w', r0 ≠ 17 → r0 ≠ 21 → V' r0 w' = V r0 w') ∧ odS (V 17 0) (V 16 0 13) (V 22 0) r (V' 17 0))) 0 0 (mem G) := by
  refine z_met (cc := cX6_calls) (nL := 1) (ret := (some .int)) (own := RX6) (by decide +kernel) rfl rfl (Nat.le_of_ble_eq_true rfl) (zz_cat rfl) (L := [some (.ref (ad G 16 0))]) rfl ?_
  intro X E
  have iX6 : ∀ x ∈ wsX60, x ∈ wsX6_calls := by decide +kernel
  have f0 : Cond.fieldLink RX6 207 "SharedStatesModel" "order" "I" ∈ wsX6_calls := by decide +kernel
  have f1 : Cond.fieldLink RX6 25 "SharedStatesModel" "told" "[I" ∈ wsX6_calls := by decide +kernel
  refine z_aload_n E dX6_calls_0 0 rfl rfl ?_
  have hr_1 := hB.g 16 0 13 rfl
  refine z_get E (ci := 6) (N := 16) (C := RX6) (T := TX6) (rfl : vl 16 0 = true) rfl rfl iX6 13 (by decide) rfl f0 rfl dX6_calls_1 ?_
  by_cases q_2_98 : (V 16 0 13) = 98
  · skip
    refine z_ls E 117 (by omega) dX6_calls_4 (by decide) (by rw [q_2_98] <;> decide) rfl ?_
    refine z_aload_n E dX6_calls_117 0 rfl rfl ?_
    refine z_aload_n E dX6_calls_118 0 rfl rfl ?_
    refine z_get E (ci := 6) (N := 16) (C := RX6) (T := TX6) (rfl : vl 16 0 = true) rfl rfl iX6 14 (by decide) rfl f1 rfl dX6_calls_119 ?_
    refine z_iconst E dX6_calls_122 ?_
    refine z_iald E (rfl : vl 22 0 = true) 4 rfl (by omega) (by omega) (by omega) dX6_calls_123 ?_
    have hr_3 := hB.g 22 0 0 rfl
    refine z_callV E (ci := 6) (N := 16) (C := RX6) (T := TX6) (n := 1) (st := []) (rfl : vl 16 0 = true) rfl rfl [.int (iI (V 22 0 0))] (kX6_branch l G P V (V 22 0 0) hB (by have := hM.z; omega) hM.z.2 hq (hB.g 16 0 4 rfl) (by omega)) gX6_calls_X6_branch rfl ⟨rfl, rfl⟩ (by decide +kernel) ⟨Nat.le_of_ble_eq_true rfl, Nat.le_of_ble_eq_true rfl⟩ rfl rfl (Nat.le_of_ble_eq_true rfl) rfl dX6_calls_124 (z_exI (fun r_4 P_4 V_4 h_4 => ?_))
    obtain ⟨hP_4, hB_4, h_4⟩ := h_4
    rw [hP_4]
    have w_q := h_4
    have w_r := qBr_R (br_of h_4).1
    exact z_iret E dX6_calls_127 (by
        have z := br_of w_q
        exact ⟨rfl, hB_4, w_r, z.2.run hrun, Or.inr (Or.inr (Or.inr (Or.inl ⟨by omega, z.1⟩)))⟩)
  by_cases q_2_102 : (V 16 0 13) = 102
  · skip
    refine z_ls E 71 (by omega) dX6_calls_4 (by decide) (by rw [q_2_102] <;> decide) rfl ?_
    refine z_aload_n E dX6_calls_71 0 rfl rfl ?_
    refine z_aload_n E dX6_calls_72 0 rfl rfl ?_
    refine z_get E (ci := 6) (N := 16) (C := RX6) (T := TX6) (rfl : vl 16 0 = true) rfl rfl iX6 14 (by decide) rfl f1 rfl dX6_calls_73 ?_
    refine z_iconst E dX6_calls_76 ?_
    refine z_iald E (rfl : vl 22 0 = true) 4 rfl (by omega) (by omega) (by omega) dX6_calls_77 ?_
    have hr_5 := hB.g 22 0 0 rfl
    refine z_aload_n E dX6_calls_78 0 rfl rfl ?_
    refine z_get E (ci := 6) (N := 16) (C := RX6) (T := TX6) (rfl : vl 16 0 = true) rfl rfl iX6 14 (by decide) rfl f1 rfl dX6_calls_79 ?_
    refine z_iconst E dX6_calls_82 ?_
    refine z_iald E (rfl : vl 22 0 = true) 4 rfl (by omega) (by omega) (by omega) dX6_calls_83 ?_
    have hr_6 := hB.g 22 0 1 rfl
    refine z_aload_n E dX6_calls_84 0 rfl rfl ?_
    refine z_get E (ci := 6) (N := 16) (C := RX6) (T := TX6) (rfl : vl 16 0 = true) rfl rfl iX6 14 (by decide) rfl f1 rfl dX6_calls_85 ?_
    refine z_iconst E dX6_calls_88 ?_
    refine z_iald E (rfl : vl 22 0 = true) 4 rfl (by omega) (by omega) (by omega) dX6_calls_89 ?_
    have hr_7 := hB.g 22 0 2 rfl
    refine z_aload_n E dX6_calls_90 0 rfl rfl ?_
    refine z_get E (ci := 6) (N := 16) (C := RX6) (T := TX6) (rfl : vl 16 0 = true) rfl rfl iX6 14 (by decide) rfl f1 rfl dX6_calls_91 ?_
    refine z_iconst E dX6_calls_94 ?_
    refine z_iald E (rfl : vl 22 0 = true) 4 rfl (by omega) (by omega) (by omega) dX6_calls_95 ?_
    have hr_8 := hB.g 22 0 3 rfl
    refine z_callV E (ci := 6) (N := 16) (C := RX6) (T := TX6) (n := 4) (st := []) (rfl : vl 16 0 = true) rfl rfl [.int (iI (V 22 0 0)), .int (iI (V 22 0 1)), .int (iI (V 22 0 2)), .int (iI (V 22 0 3))] (kX6_fill l G P V (V 22 0 0) (V 22 0 1) (V 22 0 2) (V 22 0 3) hB (by have := hM.z; omega) hM.z.2 hM.l hM.hh (by have := hM.s1; omega) hq (hB.g 16 0 4 rfl) (by omega) (by omega) (by omega) (by omega)) gX6_calls_X6_fill rfl ⟨rfl, rfl⟩ (by decide +kernel) ⟨Nat.le_of_ble_eq_true rfl, Nat.le_of_ble_eq_true rfl⟩ rfl rfl (Nat.le_of_ble_eq_true rfl) rfl dX6_calls_96 (z_exI (fun r_9 P_9 V_9 h_9 => ?_))
    obtain ⟨hP_9, hB_9, hR_9, h_9⟩ := h_9
    rw [hP_9]
    have w_q := h_9
    have w_r := hR_9
    exact z_iret E dX6_calls_99 (by
        have z := fi_of hM w_q
        exact ⟨rfl, hB_9, w_r, z.2.run hrun, Or.inr (Or.inl ⟨by omega, z.1⟩)⟩)
  by_cases q_2_109 : (V 16 0 13) = 109
  · skip
    refine z_ls E 100 (by omega) dX6_calls_4 (by decide) (by rw [q_2_109] <;> decide) rfl ?_
    refine z_aload_n E dX6_calls_100 0 rfl rfl ?_
    refine z_aload_n E dX6_calls_101 0 rfl rfl ?_
    refine z_get E (ci := 6) (N := 16) (C := RX6) (T := TX6) (rfl : vl 16 0 = true) rfl rfl iX6 14 (by decide) rfl f1 rfl dX6_calls_102 ?_
    refine z_iconst E dX6_calls_105 ?_
    refine z_iald E (rfl : vl 22 0 = true) 4 rfl (by omega) (by omega) (by omega) dX6_calls_106 ?_
    have hr_10 := hB.g 22 0 0 rfl
    refine z_aload_n E dX6_calls_107 0 rfl rfl ?_
    refine z_get E (ci := 6) (N := 16) (C := RX6) (T := TX6) (rfl : vl 16 0 = true) rfl rfl iX6 14 (by decide) rfl f1 rfl dX6_calls_108 ?_
    refine z_iconst E dX6_calls_111 ?_
    refine z_iald E (rfl : vl 22 0 = true) 4 rfl (by omega) (by omega) (by omega) dX6_calls_112 ?_
    have hr_11 := hB.g 22 0 1 rfl
    refine z_callV E (ci := 6) (N := 16) (C := RX6) (T := TX6) (n := 2) (st := []) (rfl : vl 16 0 = true) rfl rfl [.int (iI (V 22 0 0)), .int (iI (V 22 0 1))] (kX6_merge l G P V (V 22 0 0) (V 22 0 1) hB (by have := hM.z; omega) hM.z.2 hM.l hM.i hM.hh (by have := hM.s1; omega) hq (hB.g 16 0 4 rfl) (by omega) (by omega)) gX6_calls_X6_merge rfl ⟨rfl, rfl⟩ (by decide +kernel) ⟨Nat.le_of_ble_eq_true rfl, Nat.le_of_ble_eq_true rfl⟩ rfl rfl (Nat.le_of_ble_eq_true rfl) rfl dX6_calls_113 (z_exI (fun r_12 P_12 V_12 h_12 => ?_))
    obtain ⟨hP_12, hB_12, hR_12, h_12⟩ := h_12
    rw [hP_12]
    have w_q := h_12
    have w_r := hR_12
    exact z_iret E dX6_calls_116 (by
        have z := me_of hM w_q
        exact ⟨rfl, hB_12, w_r, z.2.run hrun, Or.inr (Or.inr (Or.inl ⟨by omega, z.1⟩))⟩)
  by_cases q_2_119 : (V 16 0 13) = 119
  · skip
    refine z_ls E 48 (by omega) dX6_calls_4 (by decide) (by rw [q_2_119] <;> decide) rfl ?_
    refine z_aload_n E dX6_calls_48 0 rfl rfl ?_
    refine z_aload_n E dX6_calls_49 0 rfl rfl ?_
    refine z_get E (ci := 6) (N := 16) (C := RX6) (T := TX6) (rfl : vl 16 0 = true) rfl rfl iX6 14 (by decide) rfl f1 rfl dX6_calls_50 ?_
    refine z_iconst E dX6_calls_53 ?_
    refine z_iald E (rfl : vl 22 0 = true) 4 rfl (by omega) (by omega) (by omega) dX6_calls_54 ?_
    have hr_13 := hB.g 22 0 0 rfl
    refine z_aload_n E dX6_calls_55 0 rfl rfl ?_
    refine z_get E (ci := 6) (N := 16) (C := RX6) (T := TX6) (rfl : vl 16 0 = true) rfl rfl iX6 14 (by decide) rfl f1 rfl dX6_calls_56 ?_
    refine z_iconst E dX6_calls_59 ?_
    refine z_iald E (rfl : vl 22 0 = true) 4 rfl (by omega) (by omega) (by omega) dX6_calls_60 ?_
    have hr_14 := hB.g 22 0 1 rfl
    refine z_aload_n E dX6_calls_61 0 rfl rfl ?_
    refine z_get E (ci := 6) (N := 16) (C := RX6) (T := TX6) (rfl : vl 16 0 = true) rfl rfl iX6 14 (by decide) rfl f1 rfl dX6_calls_62 ?_
    refine z_iconst E dX6_calls_65 ?_
    refine z_iald E (rfl : vl 22 0 = true) 4 rfl (by omega) (by omega) (by omega) dX6_calls_66 ?_
    have hr_15 := hB.g 22 0 2 rfl
    refine z_callV E (ci := 6) (N := 16) (C := RX6) (T := TX6) (n := 3) (st := []) (rfl : vl 16 0 = true) rfl rfl [.int (iI (V 22 0 0)), .int (iI (V 22 0 1)), .int (iI (V 22 0 2))] (kX6_write l G P V (V 22 0 0) (V 22 0 1) (V 22 0 2) hB (by have := hM.z; omega) hM.z.2 hM.l hM.hh (by have := hM.s1; omega) hq (hB.g 16 0 4 rfl) (by omega) (by omega) (by omega)) gX6_calls_X6_write rfl ⟨rfl, rfl⟩ (by decide +kernel) ⟨Nat.le_of_ble_eq_true rfl, Nat.le_of_ble_eq_true rfl⟩ rfl rfl (Nat.le_of_ble_eq_true rfl) rfl dX6_calls_67 (z_exI (fun r_16 P_16 V_16 h_16 => ?_))
    obtain ⟨hP_16, hB_16, hR_16, h_16⟩ := h_16
    rw [hP_16]
    have w_q := h_16
    have w_r := hR_16
    exact z_iret E dX6_calls_70 (by
        have z := fi_of hM w_q
        exact ⟨rfl, hB_16, w_r, z.2.run hrun, Or.inl ⟨by omega, z.1⟩⟩)
  refine z_ls E 128 (by omega) dX6_calls_4 (by decide) (by simp only [Op.lookupswitch.offset_cons, Op.lookupswitch.offset_nil, if_neg (Ne.symm q_2_98), if_neg (Ne.symm q_2_102), if_neg (Ne.symm q_2_109), if_neg (Ne.symm q_2_119)]; rfl) rfl ?_
  refine z_aload_n E dX6_calls_128 0 rfl rfl ?_
  refine z_aload_n E dX6_calls_129 0 rfl rfl ?_
  refine z_get E (ci := 6) (N := 16) (C := RX6) (T := TX6) (rfl : vl 16 0 = true) rfl rfl iX6 14 (by decide) rfl f1 rfl dX6_calls_130 ?_
  refine z_iconst E dX6_calls_133 ?_
  refine z_iald E (rfl : vl 22 0 = true) 4 rfl (by omega) (by omega) (by omega) dX6_calls_134 ?_
  have hr_17 := hB.g 22 0 0 rfl
  refine z_callV E (ci := 6) (N := 16) (C := RX6) (T := TX6) (n := 1) (st := []) (rfl : vl 16 0 = true) rfl rfl [.int (iI (V 22 0 0))] (kX6_forget l G P V (V 22 0 0) hB (by have := hM.z; omega) hM.z.2 hM.l hq (hB.g 16 0 4 rfl) (by omega)) gX6_calls_X6_forget rfl ⟨rfl, rfl⟩ (by decide +kernel) ⟨Nat.le_of_ble_eq_true rfl, Nat.le_of_ble_eq_true rfl⟩ rfl rfl (Nat.le_of_ble_eq_true rfl) rfl dX6_calls_135 (z_exI (fun r_18 P_18 V_18 h_18 => ?_))
  obtain ⟨hP_18, hB_18, h_18⟩ := h_18
  rw [hP_18]
  have w_q := h_18
  have w_r := qFo_R (fo_of h_18).1
  exact z_iret E dX6_calls_138 (by
      have z := fo_of w_q
      exact ⟨rfl, hB_18, w_r, z.2.run hrun, Or.inr (Or.inr (Or.inr (Or.inr ⟨by omega, z.1⟩)))⟩)

set_option maxHeartbeats 4000000 in
set_option maxRecDepth 100000 in
theorem kX6_plays (l : Launch) (G : Gl) (P : Nat → Nat) (V : Vt) (hB : BV V) (hM : MV (V 17 0)) (hq : 0 ≤ V 16 0 3 ∧ V 16 0 3 ≤ 4) (ht : 0 ≤ V 16 0 6 ∧ V 16 0 6 ≤ 60) (hs : V 17 0 1 ≤ 1900000000) : Met l yX6_plays wsX6_plays ({ frames := 9, cells := 0, slots := 0, locals := 203 }) (va_Pc [.ref (ad G 16 0)] (Sg G P V)) (Qk G mkI (fun r P' V' => P' = P ∧ BV V' ∧ V' 16 0 3 = V 16 0 3 ∧ V' 16 0 4 = 0 ∧ V' 16 0 6 = V 16 0 6 ∧ FRp V V' ∧ MV (V' 17 0) ∧ Out (V 17 0) (V' 17 0) ∧ ∃ (n : Nat) (pos rea cau : Int), plE (V 20 0) (V 16 0 6) (V 17 0) n r pos rea cau (V' 17 0) ∧ (r = 1 → V' 16 0 12 = (n : Int)) ∧ (r = 0 → V' 16 0 9 = pos ∧ V' 16 0 10 = rea ∧ V' 16 0 11 = cau))) 0 0 (mem G) := by
  refine z_met (cc := cX6_plays) (nL := 4) (ret := (some .boolean)) (own := RX6) (by decide +kernel) rfl rfl (Nat.le_of_ble_eq_true rfl) (zz_cat rfl) (L := [some (.ref (ad G 16 0)), none, none, none]) rfl ?_
  intro X E
  have iX6 : ∀ x ∈ wsX60, x ∈ wsX6_plays := by decide +kernel
  have f0 : Cond.fieldLink RX6 31 "SharedStatesModel" "runs" "Z" ∈ wsX6_plays := by decide +kernel
  have f1 : Cond.fieldLink RX6 201 "SharedStatesModel" "spot" "I" ∈ wsX6_plays := by decide +kernel
  have f2 : Cond.fieldLink RX6 232 "SharedStatesModel" "from" "I" ∈ wsX6_plays := by decide +kernel
  have f3 : Cond.fieldLink RX6 235 "SharedStatesModel" "orders" "I" ∈ wsX6_plays := by decide +kernel
  have f4 : Cond.fieldLink RX6 198 "SharedStatesModel" "typed" "I" ∈ wsX6_plays := by decide +kernel
  have f5 : Cond.fieldLink RX6 245 "SharedStatesModel" "reason" "I" ∈ wsX6_plays := by decide +kernel
  have f6 : Cond.fieldLink RX6 248 "SharedStatesModel" "cause" "I" ∈ wsX6_plays := by decide +kernel
  refine z_aload_n E dX6_plays_0 0 rfl rfl ?_
  refine z_iconst E dX6_plays_1 ?_
  refine z_put E (ci := 6) (N := 16) (C := RX6) (T := TX6) (ty := .boolean) (rfl : vl 16 0 = true) (updI (V 16 0) 4 1) rfl rfl iX6 tyX6 tyX6_ok nmX6 4 (by decide) rfl f0 rfl rfl rfl rfl (Nat.le_of_ble_eq_true rfl) rfl dX6_plays_2 ?_
  obtain ⟨V1, hV1⟩ : ∃ Z : Vt, Z = up V 16 0 (updI (V 16 0) 4 1) := ⟨_, rfl⟩
  rw [← hV1]
  have hB1 : BV V1 := hV1 ▸ BV_up hB (by intro _; omega)
  refine z_aload_n E dX6_plays_5 0 rfl rfl ?_
  refine z_iconst E dX6_plays_6 ?_
  refine z_put E (ci := 6) (N := 16) (C := RX6) (T := TX6) (ty := .int) (rfl : vl 16 0 = true) (updI (V1 16 0) 8 0) rfl rfl iX6 tyX6 tyX6_ok nmX6 8 (by decide) rfl f1 rfl rfl rfl rfl (Nat.le_of_ble_eq_true rfl) rfl dX6_plays_7 ?_
  obtain ⟨V2, hV2⟩ : ∃ Z : Vt, Z = up V1 16 0 (updI (V1 16 0) 8 0) := ⟨_, rfl⟩
  rw [← hV2]
  have hB2 : BV V2 := hV2 ▸ BV_up hB1 (by intro _; omega)
  refine z_aload_n E dX6_plays_10 0 rfl rfl ?_
  refine z_iconst E dX6_plays_11 ?_
  refine z_put E (ci := 6) (N := 16) (C := RX6) (T := TX6) (ty := .int) (rfl : vl 16 0 = true) (updI (V2 16 0) 9 0) rfl rfl iX6 tyX6 tyX6_ok nmX6 9 (by decide) rfl f2 rfl rfl rfl rfl (Nat.le_of_ble_eq_true rfl) rfl dX6_plays_12 ?_
  obtain ⟨V3, hV3⟩ : ∃ Z : Vt, Z = up V2 16 0 (updI (V2 16 0) 9 0) := ⟨_, rfl⟩
  rw [← hV3]
  have hB3 : BV V3 := hV3 ▸ BV_up hB2 (by intro _; omega)
  refine z_aload_n E dX6_plays_15 0 rfl rfl ?_
  refine z_iconst E dX6_plays_16 ?_
  refine z_put E (ci := 6) (N := 16) (C := RX6) (T := TX6) (ty := .int) (rfl : vl 16 0 = true) (updI (V3 16 0) 12 0) rfl rfl iX6 tyX6 tyX6_ok nmX6 12 (by decide) rfl f3 rfl rfl rfl rfl (Nat.le_of_ble_eq_true rfl) rfl dX6_plays_17 ?_
  obtain ⟨V4, hV4⟩ : ∃ Z : Vt, Z = up V3 16 0 (updI (V3 16 0) 12 0) := ⟨_, rfl⟩
  rw [← hV4]
  have hB4 : BV V4 := hV4 ▸ BV_up hB3 (by intro _; omega)
  have zqV0 : V4 = up V 16 0 (updI (updI (updI (updI (V 16 0) 4 1) 8 0) 9 0) 12 0) := by rw [hV4, hV3, hV2, hV1]; simp only [up_s, upup]
  refine z_iconst E dX6_plays_20 ?_
  refine z_istore_n E dX6_plays_21 1 rfl (L' := [some (.ref (ad G 16 0)), some (.int (iI 1)), none, none]) (Nat.le_of_ble_eq_true rfl) rfl ?_
  have lp_22_5 : ∀ (fuel : Nat) (is : Int) (Vl_22 : Vt), BV Vl_22 → (is = 0 ∨ is = 1) → (∃ (n : Nat), ((is = 1 ∧ plC (V 20 0) (V 16 0 6) (V 17 0) n (Vl_22 17 0) (Vl_22 16 0 8)) ∨ (is = 0 ∧ plE (V 20 0) (V 16 0 6) (V 17 0) n 0 (Vl_22 16 0 9) (Vl_22 16 0 10) (Vl_22 16 0 11) (Vl_22 17 0))) ∧ (is = 1 → (n : Int) = Vl_22 16 0 12) ∧ Vl_22 16 0 12 ≤ (n : Int) + 1 ∧ 0 ≤ Vl_22 16 0 12 ∧ 0 ≤ Vl_22 16 0 8 ∧ Vl_22 16 0 8 ≤ V 16 0 6 ∧ MV (Vl_22 17 0) ∧ Vl_22 17 0 1 ≤ V 17 0 1 + (n : Int) + 1 ∧ (n : Int) ≤ 60 ∧ Vl_22 16 0 3 = V 16 0 3 ∧ Vl_22 16 0 4 = 1 ∧ Vl_22 16 0 6 = V 16 0 6 ∧ FRp V Vl_22) → (2 * (V 16 0 6 - Vl_22 16 0 8) + is : Int).toNat < fuel → Kz X G P Vl_22 [some (.ref (ad G 16 0)), some (.int (iI is)), none, none] 22 [] := by
    intro fuel
    induction fuel with
    | zero => intro is Vl_22 hBl_22 hi hst hf_22; exact absurd hf_22 (Nat.not_lt_zero _)
    | succ fuel ih_22 =>
      intro is Vl_22 hBl_22 hi hst hf_22
      obtain ⟨zn, hcE, hc1, hc12, hc120, hc8, hc86, hM1, hM11, hn60, hp3, hp4, hp6, hFp⟩ := hst
      refine z_aload_n E dX6_plays_22 0 rfl rfl ?_
      have hr_6 := hBl_22.g 16 0 8 rfl
      refine z_get E (ci := 6) (N := 16) (C := RX6) (T := TX6) (rfl : vl 16 0 = true) rfl rfl iX6 8 (by decide) rfl f1 rfl dX6_plays_23 ?_
      refine z_aload_n E dX6_plays_26 0 rfl rfl ?_
      have hr_7 := hBl_22.g 16 0 6 rfl
      refine z_get E (ci := 6) (N := 16) (C := RX6) (T := TX6) (rfl : vl 16 0 = true) rfl rfl iX6 6 (by decide) rfl f4 rfl dX6_plays_27 ?_
      refine z_icmp_ge E 124 dX6_plays_30 rfl (by omega) (by omega) (fun c_8 => ?_) (fun c_8 => ?_)
      · skip
        refine z_aload_n E dX6_plays_124 0 rfl rfl ?_
        refine z_iconst E dX6_plays_125 ?_
        refine z_put E (ci := 6) (N := 16) (C := RX6) (T := TX6) (ty := .boolean) (rfl : vl 16 0 = true) (updI (Vl_22 16 0) 4 0) rfl rfl iX6 tyX6 tyX6_ok nmX6 4 (by decide) rfl f0 rfl rfl rfl rfl (Nat.le_of_ble_eq_true rfl) rfl dX6_plays_126 ?_
        obtain ⟨V9, hV9⟩ : ∃ Z : Vt, Z = up Vl_22 16 0 (updI (Vl_22 16 0) 4 0) := ⟨_, rfl⟩
        rw [← hV9]
        have hB9 : BV V9 := hV9 ▸ BV_up hBl_22 (by intro _; omega)
        have zqF4 := hV9
        refine z_iload_n E dX6_plays_129 1 rfl rfl ?_
        exact z_zret E dX6_plays_130 (by first | decide | omega) (by
            have ze17 : V9 17 0 = Vl_22 17 0 := by rw [zqF4, up_r (by decide)]
            have zeF : FRp V V9 := fun r0 w' h1 h2 h3 h4 => by rw [zqF4, up_r h1]; exact hFp r0 w' h1 h2 h3 h4
            have zej : ∀ j, j ≠ 4 → V9 16 0 j = Vl_22 16 0 j := fun j hj => by rw [zqF4, up_s, updI_n hj]
            have ze4 : V9 16 0 4 = 0 := by rw [zqF4, up_s, updI_s]
            rcases hcE with ⟨z1, z2⟩ | ⟨z1, z2⟩
            · have zE : plE (V 20 0) (V 16 0 6) (V 17 0) zn is 0 0 0 (V9 17 0) := ⟨_, _, z2, Or.inl ⟨by omega, z1, ze17⟩⟩
              exact ⟨rfl, hB9, (zej 3 (by decide)).trans hp3, ze4, (zej 6 (by decide)).trans hp6, zeF, by rw [ze17]; exact hM1, plE_out (by omega) hM zE, zn, 0, 0, 0, zE, fun y => by rw [zej 12 (by decide)]; exact (hc1 y).symm, fun y => by omega⟩
            · have zE : plE (V 20 0) (V 16 0 6) (V 17 0) zn is (Vl_22 16 0 9) (Vl_22 16 0 10) (Vl_22 16 0 11) (V9 17 0) := by rw [ze17, z1]; exact z2
              exact ⟨rfl, hB9, (zej 3 (by decide)).trans hp3, ze4, (zej 6 (by decide)).trans hp6, zeF, by rw [ze17]; exact hM1, plE_out (by omega) hM zE, zn, _, _, _, zE, fun y => by omega, fun _ => ⟨zej 9 (by decide), zej 10 (by decide), zej 11 (by decide)⟩⟩)
      · skip
        refine z_iload_n E dX6_plays_33 1 rfl rfl ?_
        refine z_if_eq E 124 dX6_plays_34 rfl (by omega) (fun c_10 => ?_) (fun c_10 => ?_)
        · skip
          refine z_aload_n E dX6_plays_124 0 rfl rfl ?_
          refine z_iconst E dX6_plays_125 ?_
          refine z_put E (ci := 6) (N := 16) (C := RX6) (T := TX6) (ty := .boolean) (rfl : vl 16 0 = true) (updI (Vl_22 16 0) 4 0) rfl rfl iX6 tyX6 tyX6_ok nmX6 4 (by decide) rfl f0 rfl rfl rfl rfl (Nat.le_of_ble_eq_true rfl) rfl dX6_plays_126 ?_
          obtain ⟨V11, hV11⟩ : ∃ Z : Vt, Z = up Vl_22 16 0 (updI (Vl_22 16 0) 4 0) := ⟨_, rfl⟩
          rw [← hV11]
          have hB11 : BV V11 := hV11 ▸ BV_up hBl_22 (by intro _; omega)
          have zqF4 := hV11
          refine z_iload_n E dX6_plays_129 1 rfl rfl ?_
          exact z_zret E dX6_plays_130 (by first | decide | omega) (by
              have ze17 : V11 17 0 = Vl_22 17 0 := by rw [zqF4, up_r (by decide)]
              have zeF : FRp V V11 := fun r0 w' h1 h2 h3 h4 => by rw [zqF4, up_r h1]; exact hFp r0 w' h1 h2 h3 h4
              have zej : ∀ j, j ≠ 4 → V11 16 0 j = Vl_22 16 0 j := fun j hj => by rw [zqF4, up_s, updI_n hj]
              have ze4 : V11 16 0 4 = 0 := by rw [zqF4, up_s, updI_s]
              rcases hcE with ⟨z1, z2⟩ | ⟨z1, z2⟩
              · have zE : plE (V 20 0) (V 16 0 6) (V 17 0) zn is 0 0 0 (V11 17 0) := ⟨_, _, z2, Or.inl ⟨by omega, z1, ze17⟩⟩
                exact ⟨rfl, hB11, (zej 3 (by decide)).trans hp3, ze4, (zej 6 (by decide)).trans hp6, zeF, by rw [ze17]; exact hM1, plE_out (by omega) hM zE, zn, 0, 0, 0, zE, fun y => by rw [zej 12 (by decide)]; exact (hc1 y).symm, fun y => by omega⟩
              · have zE : plE (V 20 0) (V 16 0 6) (V 17 0) zn is (Vl_22 16 0 9) (Vl_22 16 0 10) (Vl_22 16 0 11) (V11 17 0) := by rw [ze17, z1]; exact z2
                exact ⟨rfl, hB11, (zej 3 (by decide)).trans hp3, ze4, (zej 6 (by decide)).trans hp6, zeF, by rw [ze17]; exact hM1, plE_out (by omega) hM zE, zn, _, _, _, zE, fun y => by omega, fun _ => ⟨zej 9 (by decide), zej 10 (by decide), zej 11 (by decide)⟩⟩)
        · skip
          refine z_aload_n E dX6_plays_37 0 rfl rfl ?_
          refine z_aload_n E dX6_plays_38 0 rfl rfl ?_
          refine z_get E (ci := 6) (N := 16) (C := RX6) (T := TX6) (rfl : vl 16 0 = true) rfl rfl iX6 8 (by decide) rfl f1 rfl dX6_plays_39 ?_
          refine z_put E (ci := 6) (N := 16) (C := RX6) (T := TX6) (ty := .int) (rfl : vl 16 0 = true) (updI (Vl_22 16 0) 9 (Vl_22 16 0 8)) rfl rfl iX6 tyX6 tyX6_ok nmX6 9 (by decide) rfl f2 rfl rfl rfl rfl (Nat.le_of_ble_eq_true rfl) rfl dX6_plays_42 ?_
          obtain ⟨V12, hV12⟩ : ∃ Z : Vt, Z = up Vl_22 16 0 (updI (Vl_22 16 0) 9 (Vl_22 16 0 8)) := ⟨_, rfl⟩
          rw [← hV12]
          have hB12 : BV V12 := hV12 ▸ BV_up hBl_22 (by intro _; omega)
          have zqF9 := hV12
          refine z_aload_n E dX6_plays_45 0 rfl rfl ?_
          have zx16 : ∀ j, j ≠ 9 → V12 16 0 j = Vl_22 16 0 j := fun j hj => by rw [zqF9, up_s, updI_n hj]
          have zx8 := zx16 8 (by decide)
          have zx6 : V12 16 0 6 = V 16 0 6 := (zx16 6 (by decide)).trans hp6
          have zx9 : V12 16 0 9 = Vl_22 16 0 8 := by rw [zqF9, up_s, updI_s]
          have zxr : ∀ r0 w', r0 ≠ 16 → V12 r0 w' = Vl_22 r0 w' := fun r0 w' h => by rw [zqF9, up_r h]
          have zis : is = 1 := by rcases hcE with z | z <;> omega
          have hC : plC (V 20 0) (V 16 0 6) (V 17 0) zn (Vl_22 17 0) (Vl_22 16 0 8) := by rcases hcE with z | z; exact z.2; exact absurd z.1 (by omega)
          have zqbd := plC_bd (by omega) hM hC
          refine z_callV E (ci := 6) (N := 16) (C := RX6) (T := TX6) (n := 0) (st := []) (rfl : vl 16 0 = true) rfl rfl [] (kX6_reads l G P V12  hB12 (by rw [zx8, zx6]; omega) (by rw [zx8]; omega)) gX6_plays_X6_reads rfl ⟨rfl, rfl⟩ (by decide +kernel) ⟨Nat.le_of_ble_eq_true rfl, Nat.le_of_ble_eq_true rfl⟩ rfl rfl (Nat.le_of_ble_eq_true rfl) rfl dX6_plays_46 (z_exI (fun r_13 P_13 V_13 h_13 => ?_))
          obtain ⟨hP_13, hB_13, h_13⟩ := h_13
          rw [hP_13]
          obtain ⟨zg, zw, zqrd, zy8, zyn, zyj, zyr⟩ := rd_of (by omega) h_13
          rw [zxr 20 0 (by decide), hFp 20 0 (by decide) (by decide) (by decide) (by decide), zx6, zx8] at zqrd
          rw [zxr 20 0 (by decide), hFp 20 0 (by decide) (by decide) (by decide) (by decide), zx8] at zyn
          have zqrb := rdP_bd (by omega) zqrd
          have zy17 : V_13 17 0 = Vl_22 17 0 := (zyr 17 0 (by decide) (by decide)).trans (zxr 17 0 (by decide))
          have zy3 : V_13 16 0 3 = V 16 0 3 := ((zyj 3 (by decide) (by decide)).trans (zx16 3 (by decide))).trans hp3
          have zy4 : V_13 16 0 4 = 1 := ((zyj 4 (by decide) (by decide)).trans (zx16 4 (by decide))).trans hp4
          have zy6 : V_13 16 0 6 = V 16 0 6 := (zyj 6 (by decide) (by decide)).trans zx6
          have zy9 : V_13 16 0 9 = Vl_22 16 0 8 := (zyj 9 (by decide) (by decide)).trans zx9
          have zy12 : V_13 16 0 12 = Vl_22 16 0 12 := (zyj 12 (by decide) (by decide)).trans (zx16 12 (by decide))
          have zyF : FRp V V_13 := fun r0 w' h1 h2 h3 h4 => by rw [zyr r0 w' h1 h4, zxr r0 w' h1]; exact hFp r0 w' h1 h2 h3 h4
          clear h_13
          refine z_istore_n E dX6_plays_49 2 rfl (L' := [some (.ref (ad G 16 0)), some (.int (iI is)), some (.int (iI r_13)), none]) (Nat.le_of_ble_eq_true rfl) rfl ?_
          refine z_iload_n E dX6_plays_50 2 rfl rfl ?_
          refine z_if_eq E 61 dX6_plays_51 rfl (by omega) (fun c_14 => ?_) (fun c_14 => ?_)
          · skip
            have zr0 := c_14
            obtain ⟨zS, hzS⟩ : ∃ Z, Z = Vl_22 17 0 := ⟨_, rfl⟩
            have zz17 : V_13 17 0 = zS := by rw [hzS]; exact zy17
            have zSM : MV zS := by rw [hzS]; exact hM1
            have zSb : zS 1 ≤ Vl_22 17 0 1 + 1 := by rw [hzS]; omega
            have zzF := zyF
            have zz3 := zy3
            have zz4 := zy4
            have zz6 := zy6
            have zz8 := zy8
            have zz9 := zy9
            have zz12 := zy12
            obtain rfl : r_13 = 0 := c_14
            refine z_iconst E dX6_plays_61 ?_
            refine z_istore_n E dX6_plays_62 3 rfl (L' := [some (.ref (ad G 16 0)), some (.int (iI is)), some (.int (iI 0)), some (.int (iI 0))]) (Nat.le_of_ble_eq_true rfl) rfl ?_
            refine z_iload_n E dX6_plays_63 2 rfl rfl ?_
            refine z_if_eq E 75 dX6_plays_64 rfl (by omega) (fun _ => ?_) (fun c => absurd c (by decide))
            refine z_iconst E dX6_plays_75 ?_
            refine z_istore_n E dX6_plays_76 1 rfl (L' := [some (.ref (ad G 16 0)), some (.int (iI 0)), some (.int (iI 0)), some (.int (iI 0))]) (Nat.le_of_ble_eq_true rfl) rfl ?_
            refine z_aload_n E dX6_plays_77 0 rfl rfl ?_
            refine z_iload_n E dX6_plays_78 2 rfl rfl ?_
            refine z_if_eq E 86 dX6_plays_79 rfl (by omega) (fun _ => ?_) (fun c => absurd c (by decide))
            refine z_iconst E dX6_plays_86 ?_
            refine z_put E (ci := 6) (N := 16) (C := RX6) (T := TX6) (ty := .int) (rfl : vl 16 0 = true) (updI (V_13 16 0) 10 1) rfl rfl iX6 tyX6 tyX6_ok nmX6 10 (by decide) rfl f5 rfl rfl rfl rfl (Nat.le_of_ble_eq_true rfl) rfl dX6_plays_87 ?_
            obtain ⟨V17, hV17⟩ : ∃ Z : Vt, Z = up V_13 16 0 (updI (V_13 16 0) 10 1) := ⟨_, rfl⟩
            rw [← hV17]
            have hB17 : BV V17 := hV17 ▸ BV_up hB_13 (by intro _; omega)
            have zqF10 := hV17
            have za3 : V17 16 0 3 = V 16 0 3 := by rw [hV17, up_s, updI_n (by decide)]; exact zz3
            have za4 : V17 16 0 4 = 1 := by rw [hV17, up_s, updI_n (by decide)]; exact zz4
            have za6 : V17 16 0 6 = V 16 0 6 := by rw [hV17, up_s, updI_n (by decide)]; exact zz6
            have za8 : V17 16 0 8 = zg := by rw [hV17, up_s, updI_n (by decide)]; exact zz8
            have za9 : V17 16 0 9 = Vl_22 16 0 8 := by rw [hV17, up_s, updI_n (by decide)]; exact zz9
            have za12 : V17 16 0 12 = Vl_22 16 0 12 := by rw [hV17, up_s, updI_n (by decide)]; exact zz12
            have za17 : V17 17 0 = zS := by rw [hV17, up_r (by decide)]; exact zz17
            have zaF : FRp V V17 := fun r0 w' h1 h2 h3 h4 => by rw [hV17, up_r h1]; exact zzF r0 w' h1 h2 h3 h4
            refine z_aload_n E dX6_plays_90 0 rfl rfl ?_
            refine z_iload_n E dX6_plays_91 2 rfl rfl ?_
            refine z_if_eq E 99 dX6_plays_92 rfl (by omega) (fun _ => ?_) (fun c => absurd c (by decide))
            refine z_aload_n E dX6_plays_99 0 rfl rfl ?_
            have hr_19 := hB17.g 16 0 8 rfl
            refine z_get E (ci := 6) (N := 16) (C := RX6) (T := TX6) (rfl : vl 16 0 = true) rfl rfl iX6 8 (by decide) rfl f1 rfl dX6_plays_100 ?_
            refine z_aload_n E dX6_plays_103 0 rfl rfl ?_
            have hr_20 := hB17.g 16 0 9 rfl
            refine z_get E (ci := 6) (N := 16) (C := RX6) (T := TX6) (rfl : vl 16 0 = true) rfl rfl iX6 9 (by decide) rfl f2 rfl dX6_plays_104 ?_
            refine z_isub E dX6_plays_107 ?_
            refine z_put E (ci := 6) (N := 16) (C := RX6) (T := TX6) (ty := .int) (rfl : vl 16 0 = true) (updI (V17 16 0) 11 ((V17 16 0 8) - (V17 16 0 9))) rfl rfl iX6 tyX6 tyX6_ok nmX6 11 (by decide) rfl f6 rfl rfl rfl rfl (Nat.le_of_ble_eq_true rfl) rfl dX6_plays_108 ?_
            obtain ⟨V21, hV21⟩ : ∃ Z : Vt, Z = up V17 16 0 (updI (V17 16 0) 11 ((V17 16 0 8) - (V17 16 0 9))) := ⟨_, rfl⟩
            rw [← hV21]
            have hB21 : BV V21 := hV21 ▸ BV_up hB17 (by intro _; omega)
            have zqF11 := hV21
            have zb3 : V21 16 0 3 = V 16 0 3 := by rw [hV21, up_s, updI_n (by decide)]; exact za3
            have zb4 : V21 16 0 4 = 1 := by rw [hV21, up_s, updI_n (by decide)]; exact za4
            have zb6 : V21 16 0 6 = V 16 0 6 := by rw [hV21, up_s, updI_n (by decide)]; exact za6
            have zb8 : V21 16 0 8 = zg := by rw [hV21, up_s, updI_n (by decide)]; exact za8
            have zb9 : V21 16 0 9 = Vl_22 16 0 8 := by rw [hV21, up_s, updI_n (by decide)]; exact za9
            have zb12 : V21 16 0 12 = Vl_22 16 0 12 := by rw [hV21, up_s, updI_n (by decide)]; exact za12
            have zb17 : V21 17 0 = zS := by rw [hV21, up_r (by decide)]; exact za17
            have zbF : FRp V V21 := fun r0 w' h1 h2 h3 h4 => by rw [hV21, up_r h1]; exact zaF r0 w' h1 h2 h3 h4
            refine z_aload_n E dX6_plays_111 0 rfl rfl ?_
            refine z_dup E dX6_plays_112 rfl ?_
            have hr_22 := hB21.g 16 0 12 rfl
            refine z_get E (ci := 6) (N := 16) (C := RX6) (T := TX6) (rfl : vl 16 0 = true) rfl rfl iX6 12 (by decide) rfl f3 rfl dX6_plays_113 ?_
            refine z_iconst E dX6_plays_116 ?_
            refine z_iadd E dX6_plays_117 ?_
            refine z_put E (ci := 6) (N := 16) (C := RX6) (T := TX6) (ty := .int) (rfl : vl 16 0 = true) (updI (V21 16 0) 12 ((V21 16 0 12) + 1)) rfl rfl iX6 tyX6 tyX6_ok nmX6 12 (by decide) rfl f3 rfl rfl rfl rfl (Nat.le_of_ble_eq_true rfl) rfl dX6_plays_118 ?_
            obtain ⟨V23, hV23⟩ : ∃ Z : Vt, Z = up V21 16 0 (updI (V21 16 0) 12 ((V21 16 0 12) + 1)) := ⟨_, rfl⟩
            rw [← hV23]
            have hB23 : BV V23 := hV23 ▸ BV_up hB21 (by intro _; omega)
            have zqF12 := hV23
            have zd3 : V23 16 0 3 = V 16 0 3 := by rw [hV23, up_s, updI_n (by decide)]; exact zb3
            have zd4 : V23 16 0 4 = 1 := by rw [hV23, up_s, updI_n (by decide)]; exact zb4
            have zd6 : V23 16 0 6 = V 16 0 6 := by rw [hV23, up_s, updI_n (by decide)]; exact zb6
            have zd8 : V23 16 0 8 = zg := by rw [hV23, up_s, updI_n (by decide)]; exact zb8
            have zd9 : V23 16 0 9 = Vl_22 16 0 8 := by rw [hV23, up_s, updI_n (by decide)]; exact zb9
            have zd17 : V23 17 0 = zS := by rw [hV23, up_r (by decide)]; exact zb17
            have zdF : FRp V V23 := fun r0 w' h1 h2 h3 h4 => by rw [hV23, up_r h1]; exact zbF r0 w' h1 h2 h3 h4
            have zd12 : V23 16 0 12 = Vl_22 16 0 12 + 1 := by rw [hV23, up_s, updI_s, zb12]
            refine z_goto E 22 dX6_plays_121 rfl ?_
            refine Kz.drop 2 (L' := [some (.ref (ad G 16 0)), some (.int (iI 0)), none, some (.int (iI 0))]) rfl ?_
            refine Kz.drop 3 (L' := [some (.ref (ad G 16 0)), some (.int (iI 0)), none, none]) rfl ?_
            exact ih_22 0 V23 hB23 (by omega) (by
              have z10 : V23 16 0 10 = 1 := by rw [zqF12, up_s, updI_n (by decide), zqF11, up_s, updI_n (by decide), zqF10, up_s, updI_s]
              have z11 : V23 16 0 11 = zg - Vl_22 16 0 8 := by rw [zqF12, up_s, updI_n (by decide), zqF11, up_s, updI_s, za8, za9]
              exact ⟨zn, Or.inr ⟨rfl, by rw [zd17, zd9, z10, z11]; exact ⟨_, _, hC, Or.inr (Or.inl ⟨by omega, rfl, rfl, rfl, zg, zw, zqrd, rfl, hzS⟩)⟩⟩, fun z => absurd z (by decide), by omega, by omega, by omega, by omega, by rw [zd17]; exact zSM, by rw [zd17]; omega, by omega, zd3, zd4, zd6, zdF⟩) (by omega)
          · skip
            have zr1 := zqrb.2.2.1.resolve_left c_14
            have zyk := zyn zr1
            obtain rfl : r_13 = 1 := zr1
            refine z_aload_n E dX6_plays_54 0 rfl rfl ?_
            refine z_callV E (ci := 6) (N := 16) (C := RX6) (T := TX6) (n := 0) (st := []) (rfl : vl 16 0 = true) rfl rfl [] (kX6_calls l G P V_13  hB_13 (by rw [zy17]; exact hM1) (by rw [zy3]; exact hq) (by rw [zy4]; decide) (by rw [zy17]; omega)) gX6_plays_X6_calls rfl ⟨rfl, rfl⟩ (by decide +kernel) ⟨Nat.le_of_ble_eq_true rfl, Nat.le_of_ble_eq_true rfl⟩ rfl rfl (Nat.le_of_ble_eq_true rfl) rfl dX6_plays_55 (z_exI (fun r_24 P_24 V_24 h_24 => ?_))
            obtain ⟨hP_24, hB_24, hR_24, h_24⟩ := h_24
            rw [hP_24]
            obtain ⟨zcF, zcO⟩ := h_24
            have zcR := hR_24
            rw [zy17, zyk.1] at zcO
            have zqo2 := odS_w (zqrb.2.2.2 rfl).2 (fun j a b => zyk.2 j a b) zcO
            have zcM := odS_MV hM1 zqo2
            have zc16 := zcF 16 0 (by decide) (by decide)
            obtain ⟨zS, hzS⟩ : ∃ Z, Z = V_24 17 0 := ⟨_, rfl⟩
            rw [← hzS] at zqo2 zcM
            obtain ⟨zr, hzr⟩ : ∃ Z : Int, Z = r_24 := ⟨_, rfl⟩
            rw [← hzr] at zqo2
            have zz17 : V_24 17 0 = zS := hzS.symm
            have zSM : MV zS := zcM.1
            have zSb := zcM.2
            have zzF : FRp V V_24 := fun r0 w' h1 h2 h3 h4 => by rw [zcF r0 w' h2 h3]; exact zyF r0 w' h1 h2 h3 h4
            have zz3 : V_24 16 0 3 = V 16 0 3 := by rw [zc16]; exact zy3
            have zz4 : V_24 16 0 4 = 1 := by rw [zc16]; exact zy4
            have zz6 : V_24 16 0 6 = V 16 0 6 := by rw [zc16]; exact zy6
            have zz8 : V_24 16 0 8 = zg := by rw [zc16]; exact zy8
            have zz9 : V_24 16 0 9 = Vl_22 16 0 8 := by rw [zc16]; exact zy9
            have zz12 : V_24 16 0 12 = Vl_22 16 0 12 := by rw [zc16]; exact zy12
            refine z_goto E 62 dX6_plays_58 rfl ?_
            refine z_istore_n E dX6_plays_62 3 rfl (L' := [some (.ref (ad G 16 0)), some (.int (iI is)), some (.int (iI 1)), some (.int (iI r_24))]) (Nat.le_of_ble_eq_true rfl) rfl ?_
            refine z_iload_n E dX6_plays_63 2 rfl rfl ?_
            refine z_if_eq E 75 dX6_plays_64 rfl (by omega) (fun c => absurd c (by decide)) (fun _ => ?_)
            refine z_iload_n E dX6_plays_67 3 rfl rfl ?_
            refine z_if_lt E 75 dX6_plays_68 rfl (by omega) (fun c_26 => ?_) (fun c_26 => ?_)
            · skip
              have zr3 := c_26
              refine z_iconst E dX6_plays_75 ?_
              refine z_istore_n E dX6_plays_76 1 rfl (L' := [some (.ref (ad G 16 0)), some (.int (iI 0)), some (.int (iI 1)), some (.int (iI r_24))]) (Nat.le_of_ble_eq_true rfl) rfl ?_
              refine z_aload_n E dX6_plays_77 0 rfl rfl ?_
              refine z_iload_n E dX6_plays_78 2 rfl rfl ?_
              refine z_if_eq E 86 dX6_plays_79 rfl (by omega) (fun c => absurd c (by decide)) (fun _ => ?_)
              refine z_iconst E dX6_plays_82 ?_
              refine z_goto E 87 dX6_plays_83 rfl ?_
              refine z_put E (ci := 6) (N := 16) (C := RX6) (T := TX6) (ty := .int) (rfl : vl 16 0 = true) (updI (V_24 16 0) 10 2) rfl rfl iX6 tyX6 tyX6_ok nmX6 10 (by decide) rfl f5 rfl rfl rfl rfl (Nat.le_of_ble_eq_true rfl) rfl dX6_plays_87 ?_
              obtain ⟨V28, hV28⟩ : ∃ Z : Vt, Z = up V_24 16 0 (updI (V_24 16 0) 10 2) := ⟨_, rfl⟩
              rw [← hV28]
              have hB28 : BV V28 := hV28 ▸ BV_up hB_24 (by intro _; omega)
              have zqF10 := hV28
              have za3 : V28 16 0 3 = V 16 0 3 := by rw [hV28, up_s, updI_n (by decide)]; exact zz3
              have za4 : V28 16 0 4 = 1 := by rw [hV28, up_s, updI_n (by decide)]; exact zz4
              have za6 : V28 16 0 6 = V 16 0 6 := by rw [hV28, up_s, updI_n (by decide)]; exact zz6
              have za8 : V28 16 0 8 = zg := by rw [hV28, up_s, updI_n (by decide)]; exact zz8
              have za9 : V28 16 0 9 = Vl_22 16 0 8 := by rw [hV28, up_s, updI_n (by decide)]; exact zz9
              have za12 : V28 16 0 12 = Vl_22 16 0 12 := by rw [hV28, up_s, updI_n (by decide)]; exact zz12
              have za17 : V28 17 0 = zS := by rw [hV28, up_r (by decide)]; exact zz17
              have zaF : FRp V V28 := fun r0 w' h1 h2 h3 h4 => by rw [hV28, up_r h1]; exact zzF r0 w' h1 h2 h3 h4
              refine z_aload_n E dX6_plays_90 0 rfl rfl ?_
              refine z_iload_n E dX6_plays_91 2 rfl rfl ?_
              refine z_if_eq E 99 dX6_plays_92 rfl (by omega) (fun c => absurd c (by decide)) (fun _ => ?_)
              refine z_iload_n E dX6_plays_95 3 rfl rfl ?_
              refine z_goto E 108 dX6_plays_96 rfl ?_
              refine z_put E (ci := 6) (N := 16) (C := RX6) (T := TX6) (ty := .int) (rfl : vl 16 0 = true) (updI (V28 16 0) 11 r_24) rfl rfl iX6 tyX6 tyX6_ok nmX6 11 (by decide) rfl f6 rfl rfl rfl rfl (Nat.le_of_ble_eq_true rfl) rfl dX6_plays_108 ?_
              obtain ⟨V30, hV30⟩ : ∃ Z : Vt, Z = up V28 16 0 (updI (V28 16 0) 11 r_24) := ⟨_, rfl⟩
              rw [← hV30]
              have hB30 : BV V30 := hV30 ▸ BV_up hB28 (by intro _; omega)
              have zqF11 := hV30
              have zb3 : V30 16 0 3 = V 16 0 3 := by rw [hV30, up_s, updI_n (by decide)]; exact za3
              have zb4 : V30 16 0 4 = 1 := by rw [hV30, up_s, updI_n (by decide)]; exact za4
              have zb6 : V30 16 0 6 = V 16 0 6 := by rw [hV30, up_s, updI_n (by decide)]; exact za6
              have zb8 : V30 16 0 8 = zg := by rw [hV30, up_s, updI_n (by decide)]; exact za8
              have zb9 : V30 16 0 9 = Vl_22 16 0 8 := by rw [hV30, up_s, updI_n (by decide)]; exact za9
              have zb12 : V30 16 0 12 = Vl_22 16 0 12 := by rw [hV30, up_s, updI_n (by decide)]; exact za12
              have zb17 : V30 17 0 = zS := by rw [hV30, up_r (by decide)]; exact za17
              have zbF : FRp V V30 := fun r0 w' h1 h2 h3 h4 => by rw [hV30, up_r h1]; exact zaF r0 w' h1 h2 h3 h4
              refine z_aload_n E dX6_plays_111 0 rfl rfl ?_
              refine z_dup E dX6_plays_112 rfl ?_
              have hr_31 := hB30.g 16 0 12 rfl
              refine z_get E (ci := 6) (N := 16) (C := RX6) (T := TX6) (rfl : vl 16 0 = true) rfl rfl iX6 12 (by decide) rfl f3 rfl dX6_plays_113 ?_
              refine z_iconst E dX6_plays_116 ?_
              refine z_iadd E dX6_plays_117 ?_
              refine z_put E (ci := 6) (N := 16) (C := RX6) (T := TX6) (ty := .int) (rfl : vl 16 0 = true) (updI (V30 16 0) 12 ((V30 16 0 12) + 1)) rfl rfl iX6 tyX6 tyX6_ok nmX6 12 (by decide) rfl f3 rfl rfl rfl rfl (Nat.le_of_ble_eq_true rfl) rfl dX6_plays_118 ?_
              obtain ⟨V32, hV32⟩ : ∃ Z : Vt, Z = up V30 16 0 (updI (V30 16 0) 12 ((V30 16 0 12) + 1)) := ⟨_, rfl⟩
              rw [← hV32]
              have hB32 : BV V32 := hV32 ▸ BV_up hB30 (by intro _; omega)
              have zqF12 := hV32
              have zd3 : V32 16 0 3 = V 16 0 3 := by rw [hV32, up_s, updI_n (by decide)]; exact zb3
              have zd4 : V32 16 0 4 = 1 := by rw [hV32, up_s, updI_n (by decide)]; exact zb4
              have zd6 : V32 16 0 6 = V 16 0 6 := by rw [hV32, up_s, updI_n (by decide)]; exact zb6
              have zd8 : V32 16 0 8 = zg := by rw [hV32, up_s, updI_n (by decide)]; exact zb8
              have zd9 : V32 16 0 9 = Vl_22 16 0 8 := by rw [hV32, up_s, updI_n (by decide)]; exact zb9
              have zd17 : V32 17 0 = zS := by rw [hV32, up_r (by decide)]; exact zb17
              have zdF : FRp V V32 := fun r0 w' h1 h2 h3 h4 => by rw [hV32, up_r h1]; exact zbF r0 w' h1 h2 h3 h4
              have zd12 : V32 16 0 12 = Vl_22 16 0 12 + 1 := by rw [hV32, up_s, updI_s, zb12]
              refine z_goto E 22 dX6_plays_121 rfl ?_
              refine Kz.drop 2 (L' := [some (.ref (ad G 16 0)), some (.int (iI 0)), none, some (.int (iI r_24))]) rfl ?_
              refine Kz.drop 3 (L' := [some (.ref (ad G 16 0)), some (.int (iI 0)), none, none]) rfl ?_
              exact ih_22 0 V32 hB32 (by omega) (by
                have z10 : V32 16 0 10 = 2 := by rw [zqF12, up_s, updI_n (by decide), zqF11, up_s, updI_n (by decide), zqF10, up_s, updI_s]
                have z11 : V32 16 0 11 = zr := by rw [zqF12, up_s, updI_n (by decide), zqF11, up_s, updI_s, hzr]
                exact ⟨zn, Or.inr ⟨rfl, by rw [zd17, zd9, z10, z11]; exact ⟨_, _, hC, Or.inr (Or.inr ⟨by omega, rfl, rfl, rfl, zg, zw, zqrd, zqo2, by omega⟩)⟩⟩, fun z => absurd z (by decide), by omega, by omega, by omega, by omega, by rw [zd17]; exact zSM, by rw [zd17]; omega, by omega, zd3, zd4, zd6, zdF⟩) (by omega)
            · skip
              have zr2 := c_26
              refine z_iconst E dX6_plays_71 ?_
              refine z_goto E 76 dX6_plays_72 rfl ?_
              refine z_istore_n E dX6_plays_76 1 rfl (L' := [some (.ref (ad G 16 0)), some (.int (iI 1)), some (.int (iI 1)), some (.int (iI r_24))]) (Nat.le_of_ble_eq_true rfl) rfl ?_
              refine z_aload_n E dX6_plays_77 0 rfl rfl ?_
              refine z_iload_n E dX6_plays_78 2 rfl rfl ?_
              refine z_if_eq E 86 dX6_plays_79 rfl (by omega) (fun c => absurd c (by decide)) (fun _ => ?_)
              refine z_iconst E dX6_plays_82 ?_
              refine z_goto E 87 dX6_plays_83 rfl ?_
              refine z_put E (ci := 6) (N := 16) (C := RX6) (T := TX6) (ty := .int) (rfl : vl 16 0 = true) (updI (V_24 16 0) 10 2) rfl rfl iX6 tyX6 tyX6_ok nmX6 10 (by decide) rfl f5 rfl rfl rfl rfl (Nat.le_of_ble_eq_true rfl) rfl dX6_plays_87 ?_
              obtain ⟨V34, hV34⟩ : ∃ Z : Vt, Z = up V_24 16 0 (updI (V_24 16 0) 10 2) := ⟨_, rfl⟩
              rw [← hV34]
              have hB34 : BV V34 := hV34 ▸ BV_up hB_24 (by intro _; omega)
              have zqF10 := hV34
              have za3 : V34 16 0 3 = V 16 0 3 := by rw [hV34, up_s, updI_n (by decide)]; exact zz3
              have za4 : V34 16 0 4 = 1 := by rw [hV34, up_s, updI_n (by decide)]; exact zz4
              have za6 : V34 16 0 6 = V 16 0 6 := by rw [hV34, up_s, updI_n (by decide)]; exact zz6
              have za8 : V34 16 0 8 = zg := by rw [hV34, up_s, updI_n (by decide)]; exact zz8
              have za9 : V34 16 0 9 = Vl_22 16 0 8 := by rw [hV34, up_s, updI_n (by decide)]; exact zz9
              have za12 : V34 16 0 12 = Vl_22 16 0 12 := by rw [hV34, up_s, updI_n (by decide)]; exact zz12
              have za17 : V34 17 0 = zS := by rw [hV34, up_r (by decide)]; exact zz17
              have zaF : FRp V V34 := fun r0 w' h1 h2 h3 h4 => by rw [hV34, up_r h1]; exact zzF r0 w' h1 h2 h3 h4
              refine z_aload_n E dX6_plays_90 0 rfl rfl ?_
              refine z_iload_n E dX6_plays_91 2 rfl rfl ?_
              refine z_if_eq E 99 dX6_plays_92 rfl (by omega) (fun c => absurd c (by decide)) (fun _ => ?_)
              refine z_iload_n E dX6_plays_95 3 rfl rfl ?_
              refine z_goto E 108 dX6_plays_96 rfl ?_
              refine z_put E (ci := 6) (N := 16) (C := RX6) (T := TX6) (ty := .int) (rfl : vl 16 0 = true) (updI (V34 16 0) 11 r_24) rfl rfl iX6 tyX6 tyX6_ok nmX6 11 (by decide) rfl f6 rfl rfl rfl rfl (Nat.le_of_ble_eq_true rfl) rfl dX6_plays_108 ?_
              obtain ⟨V36, hV36⟩ : ∃ Z : Vt, Z = up V34 16 0 (updI (V34 16 0) 11 r_24) := ⟨_, rfl⟩
              rw [← hV36]
              have hB36 : BV V36 := hV36 ▸ BV_up hB34 (by intro _; omega)
              have zqF11 := hV36
              have zb3 : V36 16 0 3 = V 16 0 3 := by rw [hV36, up_s, updI_n (by decide)]; exact za3
              have zb4 : V36 16 0 4 = 1 := by rw [hV36, up_s, updI_n (by decide)]; exact za4
              have zb6 : V36 16 0 6 = V 16 0 6 := by rw [hV36, up_s, updI_n (by decide)]; exact za6
              have zb8 : V36 16 0 8 = zg := by rw [hV36, up_s, updI_n (by decide)]; exact za8
              have zb9 : V36 16 0 9 = Vl_22 16 0 8 := by rw [hV36, up_s, updI_n (by decide)]; exact za9
              have zb12 : V36 16 0 12 = Vl_22 16 0 12 := by rw [hV36, up_s, updI_n (by decide)]; exact za12
              have zb17 : V36 17 0 = zS := by rw [hV36, up_r (by decide)]; exact za17
              have zbF : FRp V V36 := fun r0 w' h1 h2 h3 h4 => by rw [hV36, up_r h1]; exact zaF r0 w' h1 h2 h3 h4
              refine z_aload_n E dX6_plays_111 0 rfl rfl ?_
              refine z_dup E dX6_plays_112 rfl ?_
              have hr_37 := hB36.g 16 0 12 rfl
              refine z_get E (ci := 6) (N := 16) (C := RX6) (T := TX6) (rfl : vl 16 0 = true) rfl rfl iX6 12 (by decide) rfl f3 rfl dX6_plays_113 ?_
              refine z_iconst E dX6_plays_116 ?_
              refine z_iadd E dX6_plays_117 ?_
              refine z_put E (ci := 6) (N := 16) (C := RX6) (T := TX6) (ty := .int) (rfl : vl 16 0 = true) (updI (V36 16 0) 12 ((V36 16 0 12) + 1)) rfl rfl iX6 tyX6 tyX6_ok nmX6 12 (by decide) rfl f3 rfl rfl rfl rfl (Nat.le_of_ble_eq_true rfl) rfl dX6_plays_118 ?_
              obtain ⟨V38, hV38⟩ : ∃ Z : Vt, Z = up V36 16 0 (updI (V36 16 0) 12 ((V36 16 0 12) + 1)) := ⟨_, rfl⟩
              rw [← hV38]
              have hB38 : BV V38 := hV38 ▸ BV_up hB36 (by intro _; omega)
              have zqF12 := hV38
              have zd3 : V38 16 0 3 = V 16 0 3 := by rw [hV38, up_s, updI_n (by decide)]; exact zb3
              have zd4 : V38 16 0 4 = 1 := by rw [hV38, up_s, updI_n (by decide)]; exact zb4
              have zd6 : V38 16 0 6 = V 16 0 6 := by rw [hV38, up_s, updI_n (by decide)]; exact zb6
              have zd8 : V38 16 0 8 = zg := by rw [hV38, up_s, updI_n (by decide)]; exact zb8
              have zd9 : V38 16 0 9 = Vl_22 16 0 8 := by rw [hV38, up_s, updI_n (by decide)]; exact zb9
              have zd17 : V38 17 0 = zS := by rw [hV38, up_r (by decide)]; exact zb17
              have zdF : FRp V V38 := fun r0 w' h1 h2 h3 h4 => by rw [hV38, up_r h1]; exact zbF r0 w' h1 h2 h3 h4
              have zd12 : V38 16 0 12 = Vl_22 16 0 12 + 1 := by rw [hV38, up_s, updI_s, zb12]
              refine z_goto E 22 dX6_plays_121 rfl ?_
              refine Kz.drop 2 (L' := [some (.ref (ad G 16 0)), some (.int (iI 1)), none, some (.int (iI r_24))]) rfl ?_
              refine Kz.drop 3 (L' := [some (.ref (ad G 16 0)), some (.int (iI 1)), none, none]) rfl ?_
              exact ih_22 1 V38 hB38 (by omega) ⟨zn + 1, Or.inl ⟨rfl, by rw [zd17, zd8]; exact ⟨_, _, zw, zr, hC, by omega, zqrd, zqo2, by omega⟩⟩, fun _ => by omega, by omega, by omega, by omega, by omega, by rw [zd17]; exact zSM, by rw [zd17]; omega, by omega, zd3, zd4, zd6, zdF⟩ (by omega)
  exact lp_22_5 ((2 * (V 16 0 6 - V4 16 0 8) + 1 : Int).toNat + 1) 1 V4 hB4 (by omega) ⟨0, Or.inl ⟨rfl, by rw [zqV0, up_r (by decide)], by rw [zqV0, up_s, updI_n (by decide), updI_n (by decide), updI_s]⟩, fun _ => by rw [zqV0, up_s, updI_s]; rfl, by rw [zqV0, up_s, updI_s]; decide, by rw [zqV0, up_s, updI_s]; decide, by rw [zqV0, up_s, updI_n (by decide), updI_n (by decide), updI_s]; decide, by rw [zqV0, up_s, updI_n (by decide), updI_n (by decide), updI_s]; omega, by rw [zqV0, up_r (by decide)]; exact hM, by rw [zqV0, up_r (by decide)]; omega, by decide, by rw [zqV0, up_s, updI_n (by decide), updI_n (by decide), updI_n (by decide), updI_n (by decide)], by rw [zqV0, up_s, updI_n (by decide), updI_n (by decide), updI_n (by decide), updI_s], by rw [zqV0, up_s, updI_n (by decide), updI_n (by decide), updI_n (by decide), updI_n (by decide)], fun r0 w' h1 h2 h3 h4 => by rw [zqV0, up_r h1]⟩ (Nat.lt_succ_self _)

set_option maxHeartbeats 4000000 in
set_option maxRecDepth 100000 in
theorem kX6_fault (l : Launch) (G : Gl) (P : Nat → Nat) (V : Vt) (what : Int) (hB : BV V) (hM : MV (V 17 0)) (hq : 0 ≤ V 16 0 3 ∧ V 16 0 3 ≤ 4) (ht : 0 ≤ V 16 0 6 ∧ V 16 0 6 ≤ 60) (hs : V 17 0 1 ≤ 1900000000) (r1 : inR what) : Met l yX6_fault wsX6_fault ({ frames := 10, cells := 0, slots := 0, locals := 226 }) (va_Pc [.ref (ad G 16 0), .int (iI what)] (Sg G P V)) (Qk G mkI (fun r P' V' => P' = P ∧ BV V' ∧ ((¬ (0 ≤ what ∧ what ≤ 2) ∧ r = -1000001 ∧ V' = V) ∨ ((0 ≤ what ∧ what ≤ 2) ∧ V' 17 0 = V 17 0 ∧ V' 16 0 3 = V 16 0 3 ∧ V' 16 0 4 = 0 ∧ V' 16 0 6 = V 16 0 6 ∧ FRq V V' ∧ ∃ (n : Nat) (res pos rea cau : Int) (s' : Int → Int), plE (V 20 0) (V 16 0 6) (V 17 0) n res pos rea cau s' ∧ ((res = 1 ∧ r = -1000004) ∨ (res = 0 ∧ r = if what = 0 then pos else if what = 1 then rea else cau)))))) 0 0 (mem G) := by
  refine z_met (cc := cX6_fault) (nL := 3) (ret := (some .int)) (own := RX6) (by decide +kernel) rfl rfl (Nat.le_of_ble_eq_true rfl) (zz_cat rfl) (L := [some (.ref (ad G 16 0)), some (.int (iI what)), none]) rfl ?_
  intro X E
  have iX6 : ∀ x ∈ wsX60, x ∈ wsX6_fault := by decide +kernel
  have f0 : Cond.fieldLink RX6 7 "SharedStatesModel" "s" "[I" ∈ wsX6_fault := by decide +kernel
  have f1 : Cond.fieldLink RX6 28 "SharedStatesModel" "ahead" "[I" ∈ wsX6_fault := by decide +kernel
  have f2 : Cond.fieldLink RX6 248 "SharedStatesModel" "cause" "I" ∈ wsX6_fault := by decide +kernel
  have f3 : Cond.fieldLink RX6 245 "SharedStatesModel" "reason" "I" ∈ wsX6_fault := by decide +kernel
  have f4 : Cond.fieldLink RX6 232 "SharedStatesModel" "from" "I" ∈ wsX6_fault := by decide +kernel
  have f5 : Cond.constant RX6 43 (-1000004) ∈ wsX6_fault := by decide +kernel
  have f6 : Cond.constant RX6 111 (-1000001) ∈ wsX6_fault := by decide +kernel
  refine z_iload_n E dX6_fault_0 1 rfl rfl ?_
  refine z_iconst E dX6_fault_1 ?_
  refine z_iconst E dX6_fault_2 ?_
  refine z_callS E (n := 3) (st := []) [.int (iI what), .int (iI 0), .int (iI 2)] (kX6_in l G P V what 0 2 (by omega) (by omega) (by omega)) gX6_fault_X6_in rfl ⟨rfl, rfl⟩ (by decide +kernel) ⟨Nat.le_of_ble_eq_true rfl, Nat.le_of_ble_eq_true rfl⟩ rfl rfl (Nat.le_of_ble_eq_true rfl) rfl dX6_fault_3 (z_dtI ?_)
  refine z_ifne_b E 12 dX6_fault_6 rfl (fun c_2 => ?_) (fun c_2 => ?_)
  · skip
    refine z_aload_n E dX6_fault_12 0 rfl rfl ?_
    refine z_get E (ci := 6) (N := 16) (C := RX6) (T := TX6) (rfl : vl 16 0 = true) rfl rfl iX6 0 (by decide) rfl f0 rfl dX6_fault_13 ?_
    refine z_aload_n E dX6_fault_16 0 rfl rfl ?_
    refine z_get E (ci := 6) (N := 16) (C := RX6) (T := TX6) (rfl : vl 16 0 = true) rfl rfl iX6 15 (by decide) rfl f1 rfl dX6_fault_17 ?_
    refine z_callS E (n := 2) (st := []) [.ref (ad G 17 0), .ref (ad G 23 0)] (kX6_copies l G P V 17 498 23 498 hB (by omega) (fun j h0 h1 h2 => absurd (by simp [ctr]) h2)) gX6_fault_X6_copies rfl ⟨rfl, rfl⟩ (by decide +kernel) ⟨Nat.le_of_ble_eq_true rfl, Nat.le_of_ble_eq_true rfl⟩ rfl rfl (Nat.le_of_ble_eq_true rfl) rfl dX6_fault_20 (z_exV (fun P_3 V_3 h_3 => ?_))
    obtain ⟨hP_3, hB_3, h_3⟩ := h_3
    rw [hP_3]
    have zqc := h_3
    have zq17 : V_3 17 0 = V 17 0 := by rw [zqc, up_r (by decide)]
    have zq16 : V_3 16 0 = V 16 0 := by rw [zqc, up_r (by decide)]
    have zq20 : V_3 20 0 = V 20 0 := by rw [zqc, up_r (by decide)]
    have zq23 : V_3 23 0 = cpI (V 17 0) (V 23 0) 0 0 498 := by rw [zqc, up_s]
    refine z_aload_n E dX6_fault_23 0 rfl rfl ?_
    refine z_callV E (ci := 6) (N := 16) (C := RX6) (T := TX6) (n := 0) (st := []) (rfl : vl 16 0 = true) rfl rfl [] (kX6_plays l G P V_3  hB_3 (by rw [zq17]; exact hM) (by rw [zq16]; exact hq) (by rw [zq16]; exact ht) (by rw [zq17]; exact hs)) gX6_fault_X6_plays rfl ⟨rfl, rfl⟩ (by decide +kernel) ⟨Nat.le_of_ble_eq_true rfl, Nat.le_of_ble_eq_true rfl⟩ rfl rfl (Nat.le_of_ble_eq_true rfl) rfl dX6_fault_24 (z_exI (fun r_4 P_4 V_4 h_4 => ?_))
    obtain ⟨hP_4, hB_4, h_4⟩ := h_4
    rw [hP_4]
    obtain ⟨zp3, zp4, zp6, zpF, zpM, zpO, zn, zpos, zrea, zcau, zpE, zp1, zp0⟩ := h_4
    rw [zq17, zq16, zq20] at zpE
    rw [zq17] at zpO
    rw [zq16] at zp3 zp6
    have zpb := plE_MV (by omega) hM zpE
    have zv23 : V_4 23 0 = cpI (V 17 0) (V 23 0) 0 0 498 := (zpF 23 0 (by decide) (by decide) (by decide) (by decide)).trans zq23
    have zvF : FRq V V_4 := fun r0 w' h1 h2 h3 h4 h5 => by rw [zpF r0 w' h1 h2 h3 h4, zqc, up_r h5]
    refine z_istore_n E dX6_fault_27 2 rfl (L' := [some (.ref (ad G 16 0)), some (.int (iI what)), some (.int (iI r_4))]) (Nat.le_of_ble_eq_true rfl) rfl ?_
    refine z_aload_n E dX6_fault_28 0 rfl rfl ?_
    refine z_get E (ci := 6) (N := 16) (C := RX6) (T := TX6) (rfl : vl 16 0 = true) rfl rfl iX6 15 (by decide) rfl f1 rfl dX6_fault_29 ?_
    refine z_aload_n E dX6_fault_32 0 rfl rfl ?_
    refine z_get E (ci := 6) (N := 16) (C := RX6) (T := TX6) (rfl : vl 16 0 = true) rfl rfl iX6 0 (by decide) rfl f0 rfl dX6_fault_33 ?_
    refine z_callS E (n := 2) (st := []) [.ref (ad G 23 0), .ref (ad G 17 0)] (kX6_copies l G P V_4 23 498 17 498 hB_4 (by omega) (fun j h0 h1 h2 => by rw [zv23, cp_i h0 h1]; exact hB.s j (fun z => h2 (by simp [ctr]; omega)))) gX6_fault_X6_copies rfl ⟨rfl, rfl⟩ (by decide +kernel) ⟨Nat.le_of_ble_eq_true rfl, Nat.le_of_ble_eq_true rfl⟩ rfl rfl (Nat.le_of_ble_eq_true rfl) rfl dX6_fault_36 (z_exV (fun P_5 V_5 h_5 => ?_))
    obtain ⟨hP_5, hB_5, h_5⟩ := h_5
    rw [hP_5]
    have zcc := h_5
    have zb17 : V_5 17 0 = V 17 0 := by rw [zcc, up_s, zv23]; exact zpO.back
    have zbj : ∀ r0, r0 ≠ 17 → V_5 r0 = V_4 r0 := fun r0 h => by rw [zcc, up_r h]
    refine z_iload_n E dX6_fault_39 2 rfl rfl ?_
    refine z_if_eq E 48 dX6_fault_40 rfl (by omega) (fun c_6 => ?_) (fun c_6 => ?_)
    · skip
      refine z_iload_n E dX6_fault_48 1 rfl rfl ?_
      refine z_if_ne E 59 dX6_fault_49 rfl (by omega) (fun c_7 => ?_) (fun c_7 => ?_)
      · skip
        refine z_iload_n E dX6_fault_59 1 rfl rfl ?_
        refine z_iconst E dX6_fault_60 ?_
        refine z_icmp_ne E 71 dX6_fault_61 rfl (by omega) (by omega) (fun c_8 => ?_) (fun c_8 => ?_)
        · skip
          refine z_aload_n E dX6_fault_71 0 rfl rfl ?_
          have hr_9 := hB_5.g 16 0 11 rfl
          refine z_get E (ci := 6) (N := 16) (C := RX6) (T := TX6) (rfl : vl 16 0 = true) rfl rfl iX6 11 (by decide) rfl f2 rfl dX6_fault_72 ?_
          exact z_iret E dX6_fault_75 ((have z := zp0 (by omega); ⟨rfl, hB_5, Or.inr ⟨by assumption, zb17, (by rw [zbj 16 (by decide)]; exact zp3), (by rw [zbj 16 (by decide)]; exact zp4), (by rw [zbj 16 (by decide)]; exact zp6), (fun r0 w' h1 h2 h3 h4 h5 => by rw [zbj r0 h2]; exact zvF r0 w' h1 h2 h3 h4 h5), zn, _, _, _, _, _, zpE, Or.inr ⟨by omega, by rw [if_neg (show ¬ what = 0 by omega), if_neg (show ¬ what = 1 by omega), zbj 16 (by decide)]; exact z.2.2⟩⟩⟩))
        · skip
          refine z_aload_n E dX6_fault_64 0 rfl rfl ?_
          have hr_10 := hB_5.g 16 0 10 rfl
          refine z_get E (ci := 6) (N := 16) (C := RX6) (T := TX6) (rfl : vl 16 0 = true) rfl rfl iX6 10 (by decide) rfl f3 rfl dX6_fault_65 ?_
          refine z_goto E 75 dX6_fault_68 rfl ?_
          exact z_iret E dX6_fault_75 ((have z := zp0 (by omega); ⟨rfl, hB_5, Or.inr ⟨by assumption, zb17, (by rw [zbj 16 (by decide)]; exact zp3), (by rw [zbj 16 (by decide)]; exact zp4), (by rw [zbj 16 (by decide)]; exact zp6), (fun r0 w' h1 h2 h3 h4 h5 => by rw [zbj r0 h2]; exact zvF r0 w' h1 h2 h3 h4 h5), zn, _, _, _, _, _, zpE, Or.inr ⟨by omega, by rw [if_neg (show ¬ what = 0 by omega), if_pos (show what = 1 by omega), zbj 16 (by decide)]; exact z.2.1⟩⟩⟩))
      · skip
        refine z_aload_n E dX6_fault_52 0 rfl rfl ?_
        have hr_11 := hB_5.g 16 0 9 rfl
        refine z_get E (ci := 6) (N := 16) (C := RX6) (T := TX6) (rfl : vl 16 0 = true) rfl rfl iX6 9 (by decide) rfl f4 rfl dX6_fault_53 ?_
        refine z_goto E 75 dX6_fault_56 rfl ?_
        exact z_iret E dX6_fault_75 ((have z := zp0 (by omega); ⟨rfl, hB_5, Or.inr ⟨by assumption, zb17, (by rw [zbj 16 (by decide)]; exact zp3), (by rw [zbj 16 (by decide)]; exact zp4), (by rw [zbj 16 (by decide)]; exact zp6), (fun r0 w' h1 h2 h3 h4 h5 => by rw [zbj r0 h2]; exact zvF r0 w' h1 h2 h3 h4 h5), zn, _, _, _, _, _, zpE, Or.inr ⟨by omega, by rw [if_pos (show what = 0 by omega), zbj 16 (by decide)]; exact z.1⟩⟩⟩))
    · skip
      refine z_ldc E (-1000004) f5 rfl dX6_fault_43 ?_
      refine z_goto E 75 dX6_fault_45 rfl ?_
      exact z_iret E dX6_fault_75 (⟨rfl, hB_5, Or.inr ⟨by assumption, zb17, (by rw [zbj 16 (by decide)]; exact zp3), (by rw [zbj 16 (by decide)]; exact zp4), (by rw [zbj 16 (by decide)]; exact zp6), (fun r0 w' h1 h2 h3 h4 h5 => by rw [zbj r0 h2]; exact zvF r0 w' h1 h2 h3 h4 h5), zn, _, _, _, _, _, zpE, Or.inl ⟨by omega, rfl⟩⟩⟩)
  · skip
    refine z_ldc E (-1000001) f6 rfl dX6_fault_9 ?_
    exact z_iret E dX6_fault_11 (⟨rfl, hB, Or.inl ⟨by assumption, rfl, rfl⟩⟩)

set_option maxHeartbeats 4000000 in
set_option maxRecDepth 100000 in
theorem kX6_play (l : Launch) (G : Gl) (P : Nat → Nat) (V : Vt) (hB : BV V) (hM : MV (V 17 0)) (hq : 0 ≤ V 16 0 3 ∧ V 16 0 3 ≤ 4) (ht : 0 ≤ V 16 0 6 ∧ V 16 0 6 ≤ 60) (hs : V 17 0 1 ≤ 1900000000) : Met l yX6_play wsX6_play ({ frames := 10, cells := 0, slots := 0, locals := 226 }) (va_Pc [.ref (ad G 16 0)] (Sg G P V)) (Qk G mkI (fun r P' V' => P' = P ∧ BV V' ∧ V' 16 0 4 = 0 ∧ V' 16 0 6 = V 16 0 6 ∧ FRs V V' ∧ ∃ (n : Nat) (res pos rea cau : Int) (s' : Int → Int), plE (V 20 0) (V 16 0 6) (V 17 0) n res pos rea cau s' ∧ ((res = 0 ∧ r = -1000002 ∧ V' 17 0 = V 17 0 ∧ V' 16 0 3 = V 16 0 3 ∧ V' 18 0 = V 18 0) ∨ (res = 1 ∧ r = (n : Int) ∧ V' 17 0 = s' ∧ V' 16 0 3 = chN V + 1 ∧ V' 18 0 = chP V)))) 0 0 (mem G) := by
  refine z_met (cc := cX6_play) (nL := 2) (ret := (some .int)) (own := RX6) (by decide +kernel) rfl rfl (Nat.le_of_ble_eq_true rfl) (zz_cat rfl) (L := [some (.ref (ad G 16 0)), none]) rfl ?_
  intro X E
  have iX6 : ∀ x ∈ wsX60, x ∈ wsX6_play := by decide +kernel
  have f0 : Cond.fieldLink RX6 7 "SharedStatesModel" "s" "[I" ∈ wsX6_play := by decide +kernel
  have f1 : Cond.fieldLink RX6 28 "SharedStatesModel" "ahead" "[I" ∈ wsX6_play := by decide +kernel
  have f2 : Cond.fieldLink RX6 235 "SharedStatesModel" "orders" "I" ∈ wsX6_play := by decide +kernel
  have f3 : Cond.constant RX6 134 (-1000002) ∈ wsX6_play := by decide +kernel
  refine z_aload_n E dX6_play_0 0 rfl rfl ?_
  refine z_get E (ci := 6) (N := 16) (C := RX6) (T := TX6) (rfl : vl 16 0 = true) rfl rfl iX6 0 (by decide) rfl f0 rfl dX6_play_1 ?_
  refine z_aload_n E dX6_play_4 0 rfl rfl ?_
  refine z_get E (ci := 6) (N := 16) (C := RX6) (T := TX6) (rfl : vl 16 0 = true) rfl rfl iX6 15 (by decide) rfl f1 rfl dX6_play_5 ?_
  refine z_callS E (n := 2) (st := []) [.ref (ad G 17 0), .ref (ad G 23 0)] (kX6_copies l G P V 17 498 23 498 hB (by omega) (fun j h0 h1 h2 => absurd (by simp [ctr]) h2)) gX6_play_X6_copies rfl ⟨rfl, rfl⟩ (by decide +kernel) ⟨Nat.le_of_ble_eq_true rfl, Nat.le_of_ble_eq_true rfl⟩ rfl rfl (Nat.le_of_ble_eq_true rfl) rfl dX6_play_8 (z_exV (fun P_1 V_1 h_1 => ?_))
  obtain ⟨hP_1, hB_1, h_1⟩ := h_1
  rw [hP_1]
  have zqc := h_1
  have zq17 : V_1 17 0 = V 17 0 := by rw [zqc, up_r (by decide)]
  have zq16 : V_1 16 0 = V 16 0 := by rw [zqc, up_r (by decide)]
  have zq20 : V_1 20 0 = V 20 0 := by rw [zqc, up_r (by decide)]
  have zq23 : V_1 23 0 = cpI (V 17 0) (V 23 0) 0 0 498 := by rw [zqc, up_s]
  refine z_aload_n E dX6_play_11 0 rfl rfl ?_
  refine z_callV E (ci := 6) (N := 16) (C := RX6) (T := TX6) (n := 0) (st := []) (rfl : vl 16 0 = true) rfl rfl [] (kX6_plays l G P V_1  hB_1 (by rw [zq17]; exact hM) (by rw [zq16]; exact hq) (by rw [zq16]; exact ht) (by rw [zq17]; exact hs)) gX6_play_X6_plays rfl ⟨rfl, rfl⟩ (by decide +kernel) ⟨Nat.le_of_ble_eq_true rfl, Nat.le_of_ble_eq_true rfl⟩ rfl rfl (Nat.le_of_ble_eq_true rfl) rfl dX6_play_12 (z_exI (fun r_2 P_2 V_2 h_2 => ?_))
  obtain ⟨hP_2, hB_2, h_2⟩ := h_2
  rw [hP_2]
  obtain ⟨zp3, zp4, zp6, zpF, zpM, zpO, zn, zpos, zrea, zcau, zpE, zp1, zp0⟩ := h_2
  rw [zq17, zq16, zq20] at zpE
  rw [zq17] at zpO
  rw [zq16] at zp3 zp6
  have zpb := plE_MV (by omega) hM zpE
  have zv23 : V_2 23 0 = cpI (V 17 0) (V 23 0) 0 0 498 := (zpF 23 0 (by decide) (by decide) (by decide) (by decide)).trans zq23
  have zvF : FRq V V_2 := fun r0 w' h1 h2 h3 h4 h5 => by rw [zpF r0 w' h1 h2 h3 h4, zqc, up_r h5]
  refine z_istore_n E dX6_play_15 1 rfl (L' := [some (.ref (ad G 16 0)), some (.int (iI r_2))]) (Nat.le_of_ble_eq_true rfl) rfl ?_
  refine z_aload_n E dX6_play_16 0 rfl rfl ?_
  refine z_get E (ci := 6) (N := 16) (C := RX6) (T := TX6) (rfl : vl 16 0 = true) rfl rfl iX6 15 (by decide) rfl f1 rfl dX6_play_17 ?_
  refine z_aload_n E dX6_play_20 0 rfl rfl ?_
  refine z_get E (ci := 6) (N := 16) (C := RX6) (T := TX6) (rfl : vl 16 0 = true) rfl rfl iX6 0 (by decide) rfl f0 rfl dX6_play_21 ?_
  refine z_callS E (n := 2) (st := []) [.ref (ad G 23 0), .ref (ad G 17 0)] (kX6_copies l G P V_2 23 498 17 498 hB_2 (by omega) (fun j h0 h1 h2 => by rw [zv23, cp_i h0 h1]; exact hB.s j (fun z => h2 (by simp [ctr]; omega)))) gX6_play_X6_copies rfl ⟨rfl, rfl⟩ (by decide +kernel) ⟨Nat.le_of_ble_eq_true rfl, Nat.le_of_ble_eq_true rfl⟩ rfl rfl (Nat.le_of_ble_eq_true rfl) rfl dX6_play_24 (z_exV (fun P_3 V_3 h_3 => ?_))
  obtain ⟨hP_3, hB_3, h_3⟩ := h_3
  rw [hP_3]
  have zcc := h_3
  have zb17 : V_3 17 0 = V 17 0 := by rw [zcc, up_s, zv23]; exact zpO.back
  have zbj : ∀ r0, r0 ≠ 17 → V_3 r0 = V_2 r0 := fun r0 h => by rw [zcc, up_r h]
  have zc3 : V_3 16 0 3 = V 16 0 3 := by rw [zbj 16 (by decide)]; exact zp3
  have zc4 : V_3 16 0 4 = 0 := by rw [zbj 16 (by decide)]; exact zp4
  have zc6 : V_3 16 0 6 = V 16 0 6 := by rw [zbj 16 (by decide)]; exact zp6
  have zcF : FRq V V_3 := fun r0 w' h1 h2 h3 h4 h5 => by rw [zbj r0 h2]; exact zvF r0 w' h1 h2 h3 h4 h5
  have zc18 : V_3 18 0 = V 18 0 := zcF 18 0 (by decide) (by decide) (by decide) (by decide) (by decide)
  refine z_iload_n E dX6_play_27 1 rfl rfl ?_
  refine z_if_ne E 34 dX6_play_28 rfl (by omega) (fun c_4 => ?_) (fun c_4 => ?_)
  · skip
    refine z_aload_n E dX6_play_34 0 rfl rfl ?_
    refine z_callV E (ci := 6) (N := 16) (C := RX6) (T := TX6) (n := 0) (st := []) (rfl : vl 16 0 = true) rfl rfl [] (kX6_changes l G P V_3  hB_3 (by rw [zc3]; exact hq) (by rw [zc4]; omega)) gX6_play_X6_changes rfl ⟨rfl, rfl⟩ (by decide +kernel) ⟨Nat.le_of_ble_eq_true rfl, Nat.le_of_ble_eq_true rfl⟩ rfl rfl (Nat.le_of_ble_eq_true rfl) rfl dX6_play_35 (z_exV (fun P_5 V_5 h_5 => ?_))
    obtain ⟨hP_5, hB_5, h_5⟩ := h_5
    rw [hP_5]
    have zch := h_5
    have zd17 : V_5 17 0 = V 17 0 := by rw [zch, ch_o (by decide) (by decide)]; exact zb17
    have zd3 : V_5 16 0 3 = chN V + 1 := by rw [zch, (chV_3 zc4).1, (chN_c zc3 zb17 zc18).1]
    have zd18 : V_5 18 0 = chP V := by rw [zch, (chV_3 zc4).2, (chN_c zc3 zb17 zc18).2]
    have zd4 : V_5 16 0 4 = 0 := by rw [zch, chV_16 (by decide)]; exact zc4
    have zd6 : V_5 16 0 6 = V 16 0 6 := by rw [zch, chV_16 (by decide)]; exact zc6
    have zdF : FRs V V_5 := fun r0 w' h1 h2 h3 h4 h5 h6 => by rw [zch, ch_o h1 h3]; exact zcF r0 w' h1 h2 h4 h5 h6
    have zd20 : V_5 20 0 = V 20 0 := zdF 20 0 (by decide) (by decide) (by decide) (by decide) (by decide) (by decide)
    refine z_aload_n E dX6_play_38 0 rfl rfl ?_
    refine z_callV E (ci := 6) (N := 16) (C := RX6) (T := TX6) (n := 0) (st := []) (rfl : vl 16 0 = true) rfl rfl [] (kX6_plays l G P V_5  hB_5 (by rw [zd17]; exact hM) (by rw [zd3]; have := chN_bd hq; omega) (by rw [zd6]; exact ht) (by rw [zd17]; exact hs)) gX6_play_X6_plays rfl ⟨rfl, rfl⟩ (by decide +kernel) ⟨Nat.le_of_ble_eq_true rfl, Nat.le_of_ble_eq_true rfl⟩ rfl rfl (Nat.le_of_ble_eq_true rfl) rfl dX6_play_39 (z_exI (fun r_6 P_6 V_6 h_6 => ?_))
    obtain ⟨hP_6, hB_6, h_6⟩ := h_6
    rw [hP_6]
    obtain ⟨yp3, yp4, yp6, ypF, ypM, ypO, yn, ypos, yrea, ycau, ypE, yp1, yp0⟩ := h_6
    rw [zd17, zd6, zd20] at ypE
    have zdet := plE_det zpE ypE
    have zde2 := zdet.2.1
    have ypb := plE_MV (by omega) hM ypE
    refine z_if_eq E 52 dX6_play_42 rfl (by omega) (fun c_7 => ?_) (fun c_7 => ?_)
    · skip
      exfalso; omega
    · skip
      refine z_aload_n E dX6_play_45 0 rfl rfl ?_
      have hr_8 := hB_6.g 16 0 12 rfl
      refine z_get E (ci := 6) (N := 16) (C := RX6) (T := TX6) (rfl : vl 16 0 = true) rfl rfl iX6 12 (by decide) rfl f2 rfl dX6_play_46 ?_
      refine z_goto E 54 dX6_play_49 rfl ?_
      exact z_iret E dX6_play_54 (⟨rfl, hB_6, yp4, yp6.trans zd6, (fun r0 w' h1 h2 h3 h4 h5 h6 => (ypF r0 w' h1 h2 h4 h5).trans (zdF r0 w' h1 h2 h3 h4 h5 h6)), yn, _, _, _, _, _, ypE, Or.inr ⟨by omega, yp1 (by omega), rfl, yp3.trans zd3, (ypF 18 0 (by decide) (by decide) (by decide) (by decide)).trans zd18⟩⟩)
  · skip
    refine z_ldc E (-1000002) f3 rfl dX6_play_31 ?_
    exact z_iret E dX6_play_33 (⟨rfl, hB_3, zc4, zc6, (fun r0 w' h1 h2 h3 h4 h5 h6 => zcF r0 w' h1 h2 h4 h5 h6), zn, _, _, _, _, _, zpE, Or.inl ⟨by omega, rfl, zb17, zc3, zc18⟩⟩)
