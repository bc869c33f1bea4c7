set_option maxHeartbeats 4000000 in
set_option maxRecDepth 100000 in
theorem kX6_changes (l : Launch) (G : Gl) (P : Nat → Nat) (V : Vt) (hB : BV V) (hq : 0 ≤ V 16 0 3 ∧ V 16 0 3 ≤ 4) (hq4 : inR (V 16 0 4)) : Met l yX6_changes wsX6_changes ({ frames := 0, cells := 0, slots := 0, locals := 0 }) (va_Pc [.ref (ad G 16 0)] (Sg G P V)) (Qk G mkV (fun r P' V' => P' = P ∧ BV V' ∧ V' = chV V)) 0 0 (mem G) := by
  refine z_met (cc := cX6_changes) (nL := 2) (ret := none) (own := RX6) (by decide +kernel) rfl rfl (Nat.le_of_ble_eq_true rfl) (zz_cat rfl) (L := [some (.ref (ad G 16 0)), none]) rfl ?_
  intro X E
  have iX6 : ∀ x ∈ wsX60, x ∈ wsX6_changes := by decide +kernel
  have f0 : Cond.fieldLink RX6 31 "SharedStatesModel" "runs" "Z" ∈ wsX6_changes := by decide +kernel
  have f1 : Cond.fieldLink RX6 35 "SharedStatesModel" "pasts" "I" ∈ wsX6_changes := by decide +kernel
  have f2 : Cond.fieldLink RX6 13 "SharedStatesModel" "past" "[I" ∈ wsX6_changes := by decide +kernel
  have f3 : Cond.fieldLink RX6 7 "SharedStatesModel" "s" "[I" ∈ wsX6_changes := by decide +kernel
  refine z_aload_n E dX6_changes_0 0 rfl rfl ?_
  have hr_1 := hB.g 16 0 4 rfl
  refine z_get E (ci := 6) (N := 16) (C := RX6) (T := TX6) (rfl : vl 16 0 = true) rfl rfl iX6 4 (by decide) rfl f0 rfl dX6_changes_1 ?_
  refine z_if_eq E 8 dX6_changes_4 rfl (by omega) (fun c_2 => ?_) (fun c_2 => ?_)
  · skip
    refine z_aload_n E dX6_changes_8 0 rfl rfl ?_
    have hr_3 := hB.g 16 0 3 rfl
    refine z_get E (ci := 6) (N := 16) (C := RX6) (T := TX6) (rfl : vl 16 0 = true) rfl rfl iX6 3 (by decide) rfl f1 rfl dX6_changes_9 ?_
    refine z_iconst E dX6_changes_12 ?_
    refine z_icmp_ne E 57 dX6_changes_13 rfl (by omega) (by omega) (fun c_4 => ?_) (fun c_4 => ?_)
    · skip
      refine z_iconst E dX6_changes_57 ?_
      refine z_istore_n E dX6_changes_58 1 rfl (L' := [some (.ref (ad G 16 0)), some (.int (iI 0))]) (Nat.le_of_ble_eq_true rfl) rfl ?_
      have lp_59_5 : ∀ (fuel : Nat) (k2 : Int) (Vl_59 : Vt), BV Vl_59 → (0 ≤ k2) → (k2 ≤ 498) → (0 ≤ Vl_59 16 0 3 ∧ Vl_59 16 0 3 < 4) → (Vl_59 = up V 18 0 (cpI (V 17 0) (V 18 0) 0 (498 * V 16 0 3) k2)) → (498 - k2 : Int).toNat < fuel → Kz X G P Vl_59 [some (.ref (ad G 16 0)), some (.int (iI k2))] 59 [] := by
        intro fuel
        induction fuel with
        | zero => intro k2 Vl_59 hBl_59 hk20 hk21 hpa hVm hf_59; exact absurd hf_59 (Nat.not_lt_zero _)
        | succ fuel ih_59 =>
          intro k2 Vl_59 hBl_59 hk20 hk21 hpa hVm hf_59
          refine z_iload_n E dX6_changes_59 1 rfl rfl ?_
          refine z_sipush E dX6_changes_60 rfl ?_
          refine z_icmp_ge E 93 dX6_changes_63 rfl (by omega) (by omega) (fun c_6 => ?_) (fun c_6 => ?_)
          · skip
            try rw [zqe17, zqe18, zqe3] at hVm
            refine z_aload_n E dX6_changes_93 0 rfl rfl ?_
            refine z_dup E dX6_changes_94 rfl ?_
            have hr_7 := hBl_59.g 16 0 3 rfl
            refine z_get E (ci := 6) (N := 16) (C := RX6) (T := TX6) (rfl : vl 16 0 = true) rfl rfl iX6 3 (by decide) rfl f1 rfl dX6_changes_95 ?_
            refine z_iconst E dX6_changes_98 ?_
            refine z_iadd E dX6_changes_99 ?_
            refine z_put E (ci := 6) (N := 16) (C := RX6) (T := TX6) (ty := .int) (rfl : vl 16 0 = true) (updI (Vl_59 16 0) 3 ((Vl_59 16 0 3) + 1)) rfl rfl iX6 tyX6 tyX6_ok nmX6 3 (by decide) rfl f1 rfl rfl rfl rfl (Nat.le_of_ble_eq_true rfl) rfl dX6_changes_100 ?_
            obtain ⟨V8, hV8⟩ : ∃ Z : Vt, Z = up Vl_59 16 0 (updI (Vl_59 16 0) 3 ((Vl_59 16 0 3) + 1)) := ⟨_, rfl⟩
            rw [← hV8]
            have hB8 : BV V8 := hV8 ▸ BV_up hBl_59 (by intro _; omega)
            exact z_vret E dX6_changes_103 (⟨rfl, hB8, by rw [hV8, hVm, show k2 = 498 by omega]; first | (rw [ch_a (by assumption) (by assumption)] <;> rfl) | (rw [ch_b (by assumption) (by assumption), zqw2, up_comm _ 16 18 0 0 _ _ (by omega), upup, upup, up_s, updI_s, updI_updI])⟩)
          · skip
            refine z_aload_n E dX6_changes_66 0 rfl rfl ?_
            refine z_get E (ci := 6) (N := 16) (C := RX6) (T := TX6) (rfl : vl 16 0 = true) rfl rfl iX6 1 (by decide) rfl f2 rfl dX6_changes_67 ?_
            refine z_sipush E dX6_changes_70 rfl ?_
            refine z_aload_n E dX6_changes_73 0 rfl rfl ?_
            have hr_9 := hBl_59.g 16 0 3 rfl
            refine z_get E (ci := 6) (N := 16) (C := RX6) (T := TX6) (rfl : vl 16 0 = true) rfl rfl iX6 3 (by decide) rfl f1 rfl dX6_changes_74 ?_
            refine z_imul E dX6_changes_77 ?_
            refine z_iload_n E dX6_changes_78 1 rfl rfl ?_
            refine z_iadd E dX6_changes_79 ?_
            refine z_aload_n E dX6_changes_80 0 rfl rfl ?_
            refine z_get E (ci := 6) (N := 16) (C := RX6) (T := TX6) (rfl : vl 16 0 = true) rfl rfl iX6 0 (by decide) rfl f3 rfl dX6_changes_81 ?_
            refine z_iload_n E dX6_changes_84 1 rfl rfl ?_
            refine z_iald E (rfl : vl 17 0 = true) 498 rfl (by omega) (by omega) (by omega) dX6_changes_85 ?_
            refine z_iast E (rfl : vl 18 0 = true) 1992 (fun _ => rfl) (by omega) (by omega) (by omega) dX6_changes_86 ?_
            obtain ⟨V11, hV11⟩ : ∃ Z : Vt, Z = up Vl_59 18 0 (updI (Vl_59 18 0) ((498 * (Vl_59 16 0 3)) + k2) (Vl_59 17 0 k2)) := ⟨_, rfl⟩
            rw [← hV11]
            have hB11 : BV V11 := hV11 ▸ BV_up hBl_59 (fun hz => absurd (by simp [ctr]) hz)
            refine z_iinc E k2 dX6_changes_87 (L' := [some (.ref (ad G 16 0)), some (.int (iI (k2 + 1)))]) (Nat.le_of_ble_eq_true rfl) rfl rfl ?_
            refine z_goto E 59 dX6_changes_90 rfl ?_
            exact ih_59 (k2 + 1) V11 hB11 (by omega) (by omega) (by rw [hV11]; exact hpa) (by rw [hV11, hVm, up_s]; exact ch_s hk20) (by omega)
      exact lp_59_5 ((498 - 0 : Int).toNat + 1) 0 V hB (by omega) (by omega) (by omega) (by rw [cpI_0]; exact up_self.symm) (Nat.lt_succ_self _)
    · skip
      refine z_iconst E dX6_changes_16 ?_
      refine z_istore_n E dX6_changes_17 1 rfl (L' := [some (.ref (ad G 16 0)), some (.int (iI 0))]) (Nat.le_of_ble_eq_true rfl) rfl ?_
      have lp_18_12 : ∀ (fuel : Nat) (k : Int) (Vl_18 : Vt), BV Vl_18 → (0 ≤ k) → (k ≤ 1494) → (Vl_18 = up V 18 0 (cpI (V 18 0) (V 18 0) 498 0 k)) → (1494 - k : Int).toNat < fuel → Kz X G P Vl_18 [some (.ref (ad G 16 0)), some (.int (iI k))] 18 [] := by
        intro fuel
        induction fuel with
        | zero => intro k Vl_18 hBl_18 hk0 hk1 hVl hf_18; exact absurd hf_18 (Nat.not_lt_zero _)
        | succ fuel ih_18 =>
          intro k Vl_18 hBl_18 hk0 hk1 hVl hf_18
          have zqg3 : Vl_18 16 0 3 = V 16 0 3 := by rw [hVl]; rfl
          refine z_iload_n E dX6_changes_18 1 rfl rfl ?_
          refine z_sipush E dX6_changes_19 rfl ?_
          refine z_icmp_ge E 47 dX6_changes_22 rfl (by omega) (by omega) (fun c_13 => ?_) (fun c_13 => ?_)
          · skip
            refine z_aload_n E dX6_changes_47 0 rfl rfl ?_
            refine z_dup E dX6_changes_48 rfl ?_
            have hr_14 := hBl_18.g 16 0 3 rfl
            refine z_get E (ci := 6) (N := 16) (C := RX6) (T := TX6) (rfl : vl 16 0 = true) rfl rfl iX6 3 (by decide) rfl f1 rfl dX6_changes_49 ?_
            refine z_iconst E dX6_changes_52 ?_
            refine z_isub E dX6_changes_53 ?_
            refine z_put E (ci := 6) (N := 16) (C := RX6) (T := TX6) (ty := .int) (rfl : vl 16 0 = true) (updI (Vl_18 16 0) 3 ((Vl_18 16 0 3) - 1)) rfl rfl iX6 tyX6 tyX6_ok nmX6 3 (by decide) rfl f1 rfl rfl rfl rfl (Nat.le_of_ble_eq_true rfl) rfl dX6_changes_54 ?_
            obtain ⟨V15, hV15⟩ : ∃ Z : Vt, Z = up Vl_18 16 0 (updI (Vl_18 16 0) 3 ((Vl_18 16 0 3) - 1)) := ⟨_, rfl⟩
            rw [← hV15]
            have hB15 : BV V15 := hV15 ▸ BV_up hBl_18 (by intro _; omega)
            have zqw2 : V15 = up (up V 18 0 (cpI (V 18 0) (V 18 0) 498 0 1494)) 16 0 (updI (V 16 0) 3 3) := by rw [hV15, hVl, show k = 1494 by omega]; show up (up V 18 0 _) 16 0 (updI (V 16 0) 3 (V 16 0 3 - 1)) = _; rw [show V 16 0 3 - 1 = 3 by omega]
            have zqe3 : V15 16 0 3 = 3 := by rw [zqw2, up_s, updI_s]
            have zqe17 : V15 17 0 = V 17 0 := by rw [zqw2]; rfl
            have zqe18 : V15 18 0 = cpI (V 18 0) (V 18 0) 498 0 1494 := by rw [zqw2, up_r (by decide), up_s]
            refine z_iconst E dX6_changes_57 ?_
            refine z_istore_n E dX6_changes_58 1 rfl (L' := [some (.ref (ad G 16 0)), some (.int (iI 0))]) (Nat.le_of_ble_eq_true rfl) rfl ?_
            have lp_59_16 : ∀ (fuel : Nat) (k2 : Int) (Vl_59 : Vt), BV Vl_59 → (0 ≤ k2) → (k2 ≤ 498) → (0 ≤ Vl_59 16 0 3 ∧ Vl_59 16 0 3 < 4) → (Vl_59 = up V15 18 0 (cpI (V15 17 0) (V15 18 0) 0 (498 * V15 16 0 3) k2)) → (498 - k2 : Int).toNat < fuel → Kz X G P Vl_59 [some (.ref (ad G 16 0)), some (.int (iI k2))] 59 [] := by
              intro fuel
              induction fuel with
              | zero => intro k2 Vl_59 hBl_59 hk20 hk21 hpa hVm hf_59; exact absurd hf_59 (Nat.not_lt_zero _)
              | succ fuel ih_59 =>
                intro k2 Vl_59 hBl_59 hk20 hk21 hpa hVm hf_59
                refine z_iload_n E dX6_changes_59 1 rfl rfl ?_
                refine z_sipush E dX6_changes_60 rfl ?_
                refine z_icmp_ge E 93 dX6_changes_63 rfl (by omega) (by omega) (fun c_17 => ?_) (fun c_17 => ?_)
                · skip
                  try rw [zqe17, zqe18, zqe3] at hVm
                  refine z_aload_n E dX6_changes_93 0 rfl rfl ?_
                  refine z_dup E dX6_changes_94 rfl ?_
                  have hr_18 := hBl_59.g 16 0 3 rfl
                  refine z_get E (ci := 6) (N := 16) (C := RX6) (T := TX6) (rfl : vl 16 0 = true) rfl rfl iX6 3 (by decide) rfl f1 rfl dX6_changes_95 ?_
                  refine z_iconst E dX6_changes_98 ?_
                  refine z_iadd E dX6_changes_99 ?_
                  refine z_put E (ci := 6) (N := 16) (C := RX6) (T := TX6) (ty := .int) (rfl : vl 16 0 = true) (updI (Vl_59 16 0) 3 ((Vl_59 16 0 3) + 1)) rfl rfl iX6 tyX6 tyX6_ok nmX6 3 (by decide) rfl f1 rfl rfl rfl rfl (Nat.le_of_ble_eq_true rfl) rfl dX6_changes_100 ?_
                  obtain ⟨V19, hV19⟩ : ∃ Z : Vt, Z = up Vl_59 16 0 (updI (Vl_59 16 0) 3 ((Vl_59 16 0 3) + 1)) := ⟨_, rfl⟩
                  rw [← hV19]
                  have hB19 : BV V19 := hV19 ▸ BV_up hBl_59 (by intro _; omega)
                  exact z_vret E dX6_changes_103 (⟨rfl, hB19, by rw [hV19, hVm, show k2 = 498 by omega]; first | (rw [ch_a (by assumption) (by assumption)] <;> rfl) | (rw [ch_b (by assumption) (by assumption), zqw2, up_comm _ 16 18 0 0 _ _ (by omega), upup, upup, up_s, updI_s, updI_updI])⟩)
                · skip
                  refine z_aload_n E dX6_changes_66 0 rfl rfl ?_
                  refine z_get E (ci := 6) (N := 16) (C := RX6) (T := TX6) (rfl : vl 16 0 = true) rfl rfl iX6 1 (by decide) rfl f2 rfl dX6_changes_67 ?_
                  refine z_sipush E dX6_changes_70 rfl ?_
                  refine z_aload_n E dX6_changes_73 0 rfl rfl ?_
                  have hr_20 := hBl_59.g 16 0 3 rfl
                  refine z_get E (ci := 6) (N := 16) (C := RX6) (T := TX6) (rfl : vl 16 0 = true) rfl rfl iX6 3 (by decide) rfl f1 rfl dX6_changes_74 ?_
                  refine z_imul E dX6_changes_77 ?_
                  refine z_iload_n E dX6_changes_78 1 rfl rfl ?_
                  refine z_iadd E dX6_changes_79 ?_
                  refine z_aload_n E dX6_changes_80 0 rfl rfl ?_
                  refine z_get E (ci := 6) (N := 16) (C := RX6) (T := TX6) (rfl : vl 16 0 = true) rfl rfl iX6 0 (by decide) rfl f3 rfl dX6_changes_81 ?_
                  refine z_iload_n E dX6_changes_84 1 rfl rfl ?_
                  refine z_iald E (rfl : vl 17 0 = true) 498 rfl (by omega) (by omega) (by omega) dX6_changes_85 ?_
                  refine z_iast E (rfl : vl 18 0 = true) 1992 (fun _ => rfl) (by omega) (by omega) (by omega) dX6_changes_86 ?_
                  obtain ⟨V22, hV22⟩ : ∃ Z : Vt, Z = up Vl_59 18 0 (updI (Vl_59 18 0) ((498 * (Vl_59 16 0 3)) + k2) (Vl_59 17 0 k2)) := ⟨_, rfl⟩
                  rw [← hV22]
                  have hB22 : BV V22 := hV22 ▸ BV_up hBl_59 (fun hz => absurd (by simp [ctr]) hz)
                  refine z_iinc E k2 dX6_changes_87 (L' := [some (.ref (ad G 16 0)), some (.int (iI (k2 + 1)))]) (Nat.le_of_ble_eq_true rfl) rfl rfl ?_
                  refine z_goto E 59 dX6_changes_90 rfl ?_
                  exact ih_59 (k2 + 1) V22 hB22 (by omega) (by omega) (by rw [hV22]; exact hpa) (by rw [hV22, hVm, up_s]; exact ch_s hk20) (by omega)
            exact lp_59_16 ((498 - 0 : Int).toNat + 1) 0 V15 hB15 (by omega) (by omega) (by omega) (by rw [cpI_0]; exact up_self.symm) (Nat.lt_succ_self _)
          · skip
            refine z_aload_n E dX6_changes_25 0 rfl rfl ?_
            refine z_get E (ci := 6) (N := 16) (C := RX6) (T := TX6) (rfl : vl 16 0 = true) rfl rfl iX6 1 (by decide) rfl f2 rfl dX6_changes_26 ?_
            refine z_iload_n E dX6_changes_29 1 rfl rfl ?_
            refine z_aload_n E dX6_changes_30 0 rfl rfl ?_
            refine z_get E (ci := 6) (N := 16) (C := RX6) (T := TX6) (rfl : vl 16 0 = true) rfl rfl iX6 1 (by decide) rfl f2 rfl dX6_changes_31 ?_
            refine z_iload_n E dX6_changes_34 1 rfl rfl ?_
            refine z_sipush E dX6_changes_35 rfl ?_
            refine z_iadd E dX6_changes_38 ?_
            refine z_iald E (rfl : vl 18 0 = true) 1992 rfl (by omega) (by omega) (by omega) dX6_changes_39 ?_
            refine z_iast E (rfl : vl 18 0 = true) 1992 (fun _ => rfl) (by omega) (by omega) (by omega) dX6_changes_40 ?_
            obtain ⟨V23, hV23⟩ : ∃ Z : Vt, Z = up Vl_18 18 0 (updI (Vl_18 18 0) k (Vl_18 18 0 (k + 498))) := ⟨_, rfl⟩
            rw [← hV23]
            have hB23 : BV V23 := hV23 ▸ BV_up hBl_18 (fun hz => absurd (by simp [ctr]) hz)
            refine z_iinc E k dX6_changes_41 (L' := [some (.ref (ad G 16 0)), some (.int (iI (k + 1)))]) (Nat.le_of_ble_eq_true rfl) rfl rfl ?_
            refine z_goto E 18 dX6_changes_44 rfl ?_
            exact ih_18 (k + 1) V23 hB23 (by omega) (by omega) (by rw [hV23, hVl, up_s, cpI_sh hk0]; exact upup _ _ _ _ _) (by omega)
      exact lp_18_12 ((1494 - 0 : Int).toNat + 1) 0 V hB (by omega) (by omega) (by rw [cpI_0]; exact up_self.symm) (Nat.lt_succ_self _)
  · skip
    exact z_vret E dX6_changes_7 (⟨rfl, hB, by unfold chV; rw [if_neg (by assumption)]⟩)

set_option maxHeartbeats 4000000 in
set_option maxRecDepth 100000 in
theorem kX6_blockFor (l : Launch) (G : Gl) (P : Nat → Nat) (V : Vt) (pl : Int) (hB : BV V) (a1 : 0 ≤ pl) (a2 : pl < 6) (hex : ¬ (V 17 0 5 = 1 ∧ 0 ≤ FDm (V 17 0) (V 21 0) pl) → ∃ d, 0 ≤ d ∧ d < 40 ∧ ¬ mf (V 17 0) d = 1) : Met l yX6_blockFor wsX6_blockFor ({ frames := 3, cells := 0, slots := 0, locals := 67 }) (va_Pc [.ref (ad G 16 0), .int (iI pl)] (Sg G P V)) (Qk G mkI (fun r P' V' => P' = P ∧ BV V' ∧ ∃ s', bfR (V 17 0) (V 21 0) pl r s' ∧ V' = up V 17 0 s')) 0 0 (mem G) := by
  refine z_met (cc := cX6_blockFor) (nL := 3) (ret := (some .int)) (own := RX6) (by decide +kernel) rfl rfl (Nat.le_of_ble_eq_true rfl) (zz_cat rfl) (L := [some (.ref (ad G 16 0)), some (.int (iI pl)), none]) rfl ?_
  intro X E
  have iX6 : ∀ x ∈ wsX60, x ∈ wsX6_blockFor := by decide +kernel
  have f0 : Cond.fieldLink RX6 7 "SharedStatesModel" "s" "[I" ∈ wsX6_blockFor := by decide +kernel
  have f1 : Cond.constant RX6 43 (-1000004) ∈ wsX6_blockFor := by decide +kernel
  refine z_aload_n E dX6_blockFor_0 0 rfl rfl ?_
  refine z_get E (ci := 6) (N := 16) (C := RX6) (T := TX6) (rfl : vl 16 0 = true) rfl rfl iX6 0 (by decide) rfl f0 rfl dX6_blockFor_1 ?_
  refine z_iconst E dX6_blockFor_4 ?_
  refine z_iald E (rfl : vl 17 0 = true) 498 rfl (by omega) (by omega) (by omega) dX6_blockFor_5 ?_
  have hr_1 := hB.s 5 (by omega)
  refine z_iconst E dX6_blockFor_6 ?_
  refine z_icmp_ne E 18 dX6_blockFor_7 rfl (by omega) (by omega) (fun c_2 => ?_) (fun c_2 => ?_)
  · skip
    refine z_ldc E (-1000004) f1 rfl dX6_blockFor_18 ?_
    refine z_istore_n E dX6_blockFor_20 2 rfl (L' := [some (.ref (ad G 16 0)), some (.int (iI pl)), some (.int (iI (-1000004)))]) (Nat.le_of_ble_eq_true rfl) rfl ?_
    refine z_aload_n E dX6_blockFor_21 0 rfl rfl ?_
    refine z_get E (ci := 6) (N := 16) (C := RX6) (T := TX6) (rfl : vl 16 0 = true) rfl rfl iX6 0 (by decide) rfl f0 rfl dX6_blockFor_22 ?_
    refine z_iconst E dX6_blockFor_25 ?_
    refine z_dup2 E dX6_blockFor_26 rfl rfl ?_
    refine z_iald E (rfl : vl 17 0 = true) 498 rfl (by omega) (by omega) (by omega) dX6_blockFor_27 ?_
    refine z_iload_n E dX6_blockFor_28 2 rfl rfl ?_
    refine z_if_lt E 36 dX6_blockFor_29 rfl (by omega) (fun _ => ?_) (fun c => absurd c (by decide))
    refine z_iconst E dX6_blockFor_36 ?_
    refine z_iadd E dX6_blockFor_37 ?_
    refine z_iast E (rfl : vl 17 0 = true) 498 (fun _ => rfl) (by omega) (by omega) (by omega) dX6_blockFor_38 ?_
    obtain ⟨V5, hV5⟩ : ∃ Z : Vt, Z = up V 17 0 (updI (V 17 0) 3 ((V 17 0 3) + 0)) := ⟨_, rfl⟩
    rw [← hV5]
    have hB5 : BV V5 := hV5 ▸ BV_up hB (fun hz => absurd (by simp [ctr]) hz)
    have zqwu3 := hV5
    try have zqwuid : V5 = V := by rw [hV5, Int.add_zero, updI_id, up_self]
    have zqe21 : V5 21 0 = V 21 0 := by rw [hV5]; rfl
    refine z_iload_n E dX6_blockFor_39 2 rfl rfl ?_
    refine z_if_lt E 47 dX6_blockFor_40 rfl (by omega) (fun _ => ?_) (fun c => absurd c (by decide))
    refine z_aload_n E dX6_blockFor_47 0 rfl rfl ?_
    refine z_iload_n E dX6_blockFor_48 1 rfl rfl ?_
    refine z_callV E (ci := 6) (N := 16) (C := RX6) (T := TX6) (n := 1) (st := []) (rfl : vl 16 0 = true) rfl rfl [.int (iI pl)] (kX6_makesBlock l G P V5 pl hB5 (by omega) (by omega) (by first | (exfalso; omega) | (rw [zqwuid]; exact hex (by omega)))) gX6_blockFor_X6_makesBlock rfl ⟨rfl, rfl⟩ (by decide +kernel) ⟨Nat.le_of_ble_eq_true rfl, Nat.le_of_ble_eq_true rfl⟩ rfl rfl (Nat.le_of_ble_eq_true rfl) rfl dX6_blockFor_49 (z_exI (fun r_7 P_7 V_7 h_7 => ?_))
    obtain ⟨hP_7, hB_7, h_7⟩ := h_7
    rw [hP_7]
    have zqwum := h_7
    exact z_iret E dX6_blockFor_52 (by first | (exfalso; omega) | exact ⟨rfl, hB_7, _, Or.inl ⟨by assumption, by omega, by omega, rfl⟩, zqwu3⟩ | (obtain ⟨zqm0, zqm1, zqm2, zqm3, zqm4⟩ := zqwum; rw [zqwuid] at zqm2 zqm3 zqm4; exact ⟨rfl, hB_7, _, Or.inr ⟨by omega, zqm0, zqm1, zqm2, zqm3, rfl⟩, zqm4⟩))
  · skip
    refine z_aload_n E dX6_blockFor_10 0 rfl rfl ?_
    refine z_iload_n E dX6_blockFor_11 1 rfl rfl ?_
    refine z_callV E (ci := 6) (N := 16) (C := RX6) (T := TX6) (n := 1) (st := []) (rfl : vl 16 0 = true) rfl rfl [.int (iI pl)] (kX6_found l G P V pl hB (by omega) (by omega)) gX6_blockFor_X6_found rfl ⟨rfl, rfl⟩ (by decide +kernel) ⟨Nat.le_of_ble_eq_true rfl, Nat.le_of_ble_eq_true rfl⟩ rfl rfl (Nat.le_of_ble_eq_true rfl) rfl dX6_blockFor_12 (z_dtI ?_)
    have h_8a := FDm_c (V 17 0) (V 21 0) pl
    refine z_goto E 20 dX6_blockFor_15 rfl ?_
    refine z_istore_n E dX6_blockFor_20 2 rfl (L' := [some (.ref (ad G 16 0)), some (.int (iI pl)), some (.int (iI (fO (FDm (V 17 0) (V 21 0) pl))))]) (Nat.le_of_ble_eq_true rfl) rfl ?_
    refine z_aload_n E dX6_blockFor_21 0 rfl rfl ?_
    refine z_get E (ci := 6) (N := 16) (C := RX6) (T := TX6) (rfl : vl 16 0 = true) rfl rfl iX6 0 (by decide) rfl f0 rfl dX6_blockFor_22 ?_
    refine z_iconst E dX6_blockFor_25 ?_
    refine z_dup2 E dX6_blockFor_26 rfl rfl ?_
    refine z_iald E (rfl : vl 17 0 = true) 498 rfl (by omega) (by omega) (by omega) dX6_blockFor_27 ?_
    refine z_iload_n E dX6_blockFor_28 2 rfl rfl ?_
    refine z_if_lt E 36 dX6_blockFor_29 rfl (by omega) (fun c_10 => ?_) (fun c_10 => ?_)
    · skip
      refine z_iconst E dX6_blockFor_36 ?_
      refine z_iadd E dX6_blockFor_37 ?_
      refine z_iast E (rfl : vl 17 0 = true) 498 (fun _ => rfl) (by omega) (by omega) (by omega) dX6_blockFor_38 ?_
      obtain ⟨V11, hV11⟩ : ∃ Z : Vt, Z = up V 17 0 (updI (V 17 0) 3 ((V 17 0 3) + 0)) := ⟨_, rfl⟩
      rw [← hV11]
      have hB11 : BV V11 := hV11 ▸ BV_up hB (fun hz => absurd (by simp [ctr]) hz)
      have zqwu3 := hV11
      try have zqwuid : V11 = V := by rw [hV11, Int.add_zero, updI_id, up_self]
      have zqe21 : V11 21 0 = V 21 0 := by rw [hV11]; rfl
      refine z_iload_n E dX6_blockFor_39 2 rfl rfl ?_
      refine z_if_lt E 47 dX6_blockFor_40 rfl (by omega) (fun c_12 => ?_) (fun c_12 => ?_)
      · skip
        refine z_aload_n E dX6_blockFor_47 0 rfl rfl ?_
        refine z_iload_n E dX6_blockFor_48 1 rfl rfl ?_
        refine z_callV E (ci := 6) (N := 16) (C := RX6) (T := TX6) (n := 1) (st := []) (rfl : vl 16 0 = true) rfl rfl [.int (iI pl)] (kX6_makesBlock l G P V11 pl hB11 (by omega) (by omega) (by first | (exfalso; omega) | (rw [zqwuid]; exact hex (by omega)))) gX6_blockFor_X6_makesBlock rfl ⟨rfl, rfl⟩ (by decide +kernel) ⟨Nat.le_of_ble_eq_true rfl, Nat.le_of_ble_eq_true rfl⟩ rfl rfl (Nat.le_of_ble_eq_true rfl) rfl dX6_blockFor_49 (z_exI (fun r_13 P_13 V_13 h_13 => ?_))
        obtain ⟨hP_13, hB_13, h_13⟩ := h_13
        rw [hP_13]
        have zqwum := h_13
        exact z_iret E dX6_blockFor_52 (by first | (exfalso; omega) | exact ⟨rfl, hB_13, _, Or.inl ⟨by assumption, by omega, by omega, rfl⟩, zqwu3⟩ | (obtain ⟨zqm0, zqm1, zqm2, zqm3, zqm4⟩ := zqwum; rw [zqwuid] at zqm2 zqm3 zqm4; exact ⟨rfl, hB_13, _, Or.inr ⟨by omega, zqm0, zqm1, zqm2, zqm3, rfl⟩, zqm4⟩))
      · skip
        refine z_iload_n E dX6_blockFor_43 2 rfl rfl ?_
        refine z_goto E 52 dX6_blockFor_44 rfl ?_
        exact z_iret E dX6_blockFor_52 (by first | (exfalso; omega) | exact ⟨rfl, hB11, _, Or.inl ⟨by assumption, by omega, by omega, rfl⟩, zqwu3⟩ | (obtain ⟨zqm0, zqm1, zqm2, zqm3, zqm4⟩ := zqwum; rw [zqwuid] at zqm2 zqm3 zqm4; exact ⟨rfl, hB11, _, Or.inr ⟨by omega, zqm0, zqm1, zqm2, zqm3, rfl⟩, zqm4⟩))
    · skip
      refine z_iconst E dX6_blockFor_32 ?_
      refine z_goto E 37 dX6_blockFor_33 rfl ?_
      refine z_iadd E dX6_blockFor_37 ?_
      refine z_iast E (rfl : vl 17 0 = true) 498 (fun _ => rfl) (by omega) (by omega) (by omega) dX6_blockFor_38 ?_
      obtain ⟨V14, hV14⟩ : ∃ Z : Vt, Z = up V 17 0 (updI (V 17 0) 3 ((V 17 0 3) + 1)) := ⟨_, rfl⟩
      rw [← hV14]
      have hB14 : BV V14 := hV14 ▸ BV_up hB (fun hz => absurd (by simp [ctr]) hz)
      have zqwu3 := hV14
      try have zqwuid : V14 = V := by rw [hV14, Int.add_zero, updI_id, up_self]
      have zqe21 : V14 21 0 = V 21 0 := by rw [hV14]; rfl
      refine z_iload_n E dX6_blockFor_39 2 rfl rfl ?_
      refine z_if_lt E 47 dX6_blockFor_40 rfl (by omega) (fun c_15 => ?_) (fun c_15 => ?_)
      · skip
        refine z_aload_n E dX6_blockFor_47 0 rfl rfl ?_
        refine z_iload_n E dX6_blockFor_48 1 rfl rfl ?_
        refine z_callV E (ci := 6) (N := 16) (C := RX6) (T := TX6) (n := 1) (st := []) (rfl : vl 16 0 = true) rfl rfl [.int (iI pl)] (kX6_makesBlock l G P V14 pl hB14 (by omega) (by omega) (by first | (exfalso; omega) | (rw [zqwuid]; exact hex (by omega)))) gX6_blockFor_X6_makesBlock rfl ⟨rfl, rfl⟩ (by decide +kernel) ⟨Nat.le_of_ble_eq_true rfl, Nat.le_of_ble_eq_true rfl⟩ rfl rfl (Nat.le_of_ble_eq_true rfl) rfl dX6_blockFor_49 (z_exI (fun r_16 P_16 V_16 h_16 => ?_))
        obtain ⟨hP_16, hB_16, h_16⟩ := h_16
        rw [hP_16]
        have zqwum := h_16
        exact z_iret E dX6_blockFor_52 (by first | (exfalso; omega) | exact ⟨rfl, hB_16, _, Or.inl ⟨by assumption, by omega, by omega, rfl⟩, zqwu3⟩ | (obtain ⟨zqm0, zqm1, zqm2, zqm3, zqm4⟩ := zqwum; rw [zqwuid] at zqm2 zqm3 zqm4; exact ⟨rfl, hB_16, _, Or.inr ⟨by omega, zqm0, zqm1, zqm2, zqm3, rfl⟩, zqm4⟩))
      · skip
        refine z_iload_n E dX6_blockFor_43 2 rfl rfl ?_
        refine z_goto E 52 dX6_blockFor_44 rfl ?_
        exact z_iret E dX6_blockFor_52 (by first | (exfalso; omega) | exact ⟨rfl, hB14, _, Or.inl ⟨by assumption, by omega, by omega, rfl⟩, zqwu3⟩ | (obtain ⟨zqm0, zqm1, zqm2, zqm3, zqm4⟩ := zqwum; rw [zqwuid] at zqm2 zqm3 zqm4; exact ⟨rfl, hB14, _, Or.inr ⟨by omega, zqm0, zqm1, zqm2, zqm3, rfl⟩, zqm4⟩))

set_option maxHeartbeats 4000000 in
set_option maxRecDepth 100000 in
theorem kX6_writes (l : Launch) (G : Gl) (P : Nat → Nat) (V : Vt) (b : Int) (hB : BV V) (hm0 : 0 ≤ V 17 0 0) (hm1 : V 17 0 0 ≤ 16) (hmL : ∀ k p, 0 ≤ k → k < 16 → 0 ≤ p → p < 6 → 0 ≤ mo (V 17 0) k (2 + p) ∧ mo (V 17 0) k (2 + p) < 40) (a1 : 0 ≤ b) (a2 : b < 4) (a3 : 0 ≤ mS (V 17 0) (mh (V 17 0) b)) (a4 : V 17 0 0 < 16) (a5 : inR (V 17 0 1 + 1)) (hfree : ∀ (p : Nat) (sp : Int → Int), p < 6 → wrC (V 21 0) (mS (V 17 0) (mh (V 17 0) b)) (V 17 0 0) (wr0 (V 17 0) b) p sp → DFm sp (V 21 0) (mS (V 17 0) (mh (V 17 0) b)) (p : Int) → ¬ (sp 5 = 1 ∧ 0 ≤ FDm sp (V 21 0) (p : Int)) → ∃ d, 0 ≤ d ∧ d < 40 ∧ ¬ mf sp d = 1) : Met l yX6_writes wsX6_writes ({ frames := 4, cells := 0, slots := 0, locals := 89 }) (va_Pc [.ref (ad G 16 0), .int (iI b)] (Sg G P V)) (Qk G mkI (fun r P' V' => P' = P ∧ BV V' ∧ r = V 17 0 1 ∧ ∃ s6, wrC (V 21 0) (mS (V 17 0) (mh (V 17 0) b)) (V 17 0 0) (wr0 (V 17 0) b) 6 s6 ∧ V' = up V 17 0 (wr9 s6 b (V 17 0 1)))) 0 0 (mem G) := by
  refine z_met (cc := cX6_writes) (nL := 6) (ret := (some .int)) (own := RX6) (by decide +kernel) rfl rfl (Nat.le_of_ble_eq_true rfl) (zz_cat rfl) (L := [some (.ref (ad G 16 0)), some (.int (iI b)), none, none, none, none]) rfl ?_
  intro X E
  have iX6 : ∀ x ∈ wsX60, x ∈ wsX6_writes := by decide +kernel
  have f0 : Cond.fieldLink RX6 7 "SharedStatesModel" "s" "[I" ∈ wsX6_writes := by decide +kernel
  refine z_aload_n E dX6_writes_0 0 rfl rfl ?_
  refine z_aload_n E dX6_writes_1 0 rfl rfl ?_
  refine z_get E (ci := 6) (N := 16) (C := RX6) (T := TX6) (rfl : vl 16 0 = true) rfl rfl iX6 0 (by decide) rfl f0 rfl dX6_writes_2 ?_
  refine z_bipush E dX6_writes_5 rfl ?_
  refine z_iload_n E dX6_writes_7 1 rfl rfl ?_
  refine z_iadd E dX6_writes_8 ?_
  refine z_iald E (rfl : vl 17 0 = true) 498 rfl (by omega) (by omega) (by omega) dX6_writes_9 ?_
  have hr_1 := hB.s (6 + b) (by omega)
  refine z_callV E (ci := 6) (N := 16) (C := RX6) (T := TX6) (n := 1) (st := []) (rfl : vl 16 0 = true) rfl rfl [.int (iI (V 17 0 (6 + b)))] (kX6_slot l G P V (V 17 0 (6 + b)) hB (by omega) (by omega) (by omega)) gX6_writes_X6_slot rfl ⟨rfl, rfl⟩ (by decide +kernel) ⟨Nat.le_of_ble_eq_true rfl, Nat.le_of_ble_eq_true rfl⟩ rfl rfl (Nat.le_of_ble_eq_true rfl) rfl dX6_writes_10 (z_dtI ?_)
  have h_2a := mS_c (V 17 0) (V 17 0 (6 + b))
  have h_q : fO (mS (V 17 0) (V 17 0 (6 + b))) = (mS (V 17 0) (mh (V 17 0) b)) := by unfold mh at a3 ⊢; omega
  rw [h_q]
  have h_q2 : (mS (V 17 0) (mh (V 17 0) b)) < V 17 0 0 := by unfold mh at a3 ⊢; omega
  refine z_istore_n E dX6_writes_13 2 rfl (L' := [some (.ref (ad G 16 0)), some (.int (iI b)), some (.int (iI (mS (V 17 0) (mh (V 17 0) b)))), none, none, none]) (Nat.le_of_ble_eq_true rfl) rfl ?_
  refine z_aload_n E dX6_writes_14 0 rfl rfl ?_
  refine z_get E (ci := 6) (N := 16) (C := RX6) (T := TX6) (rfl : vl 16 0 = true) rfl rfl iX6 0 (by decide) rfl f0 rfl dX6_writes_15 ?_
  refine z_iconst E dX6_writes_18 ?_
  refine z_iald E (rfl : vl 17 0 = true) 498 rfl (by omega) (by omega) (by omega) dX6_writes_19 ?_
  have hr_3 := hB.s 0 (by omega)
  refine z_istore_n E dX6_writes_20 3 rfl (L' := [some (.ref (ad G 16 0)), some (.int (iI b)), some (.int (iI (mS (V 17 0) (mh (V 17 0) b)))), some (.int (iI (V 17 0 0))), none, none]) (Nat.le_of_ble_eq_true rfl) rfl ?_
  refine z_aload_n E dX6_writes_21 0 rfl rfl ?_
  refine z_get E (ci := 6) (N := 16) (C := RX6) (T := TX6) (rfl : vl 16 0 = true) rfl rfl iX6 0 (by decide) rfl f0 rfl dX6_writes_22 ?_
  refine z_iconst E dX6_writes_25 ?_
  refine z_iald E (rfl : vl 17 0 = true) 498 rfl (by omega) (by omega) (by omega) dX6_writes_26 ?_
  have hr_4 := hB.s 1 (by omega)
  refine z_istore E dX6_writes_27 (L' := [some (.ref (ad G 16 0)), some (.int (iI b)), some (.int (iI (mS (V 17 0) (mh (V 17 0) b)))), some (.int (iI (V 17 0 0))), some (.int (iI (V 17 0 1))), none]) (Nat.le_of_ble_eq_true rfl) rfl ?_
  refine z_aload_n E dX6_writes_29 0 rfl rfl ?_
  refine z_get E (ci := 6) (N := 16) (C := RX6) (T := TX6) (rfl : vl 16 0 = true) rfl rfl iX6 0 (by decide) rfl f0 rfl dX6_writes_30 ?_
  refine z_bipush E dX6_writes_33 rfl ?_
  refine z_bipush E dX6_writes_35 rfl ?_
  refine z_iload_n E dX6_writes_37 3 rfl rfl ?_
  refine z_imul E dX6_writes_38 ?_
  refine z_iadd E dX6_writes_39 ?_
  refine z_iconst E dX6_writes_40 ?_
  refine z_iadd E dX6_writes_41 ?_
  refine z_iload E dX6_writes_42 rfl ?_
  refine z_iast E (rfl : vl 17 0 = true) 498 (fun _ => rfl) (by omega) (by omega) (by omega) dX6_writes_44 ?_
  obtain ⟨V5, hV5⟩ : ∃ Z : Vt, Z = up V 17 0 (updI (V 17 0) ((10 + (8 * (V 17 0 0))) + 0) (V 17 0 1)) := ⟨_, rfl⟩
  rw [← hV5]
  have hB5 : BV V5 := hV5 ▸ BV_up hB (by intro _; omega)
  have zqe6 : V5 17 0 (6 + b) = V 17 0 (6 + b) := by rw [hV5, up_s]; exact updI_n (by omega)
  refine z_aload_n E dX6_writes_45 0 rfl rfl ?_
  refine z_get E (ci := 6) (N := 16) (C := RX6) (T := TX6) (rfl : vl 16 0 = true) rfl rfl iX6 0 (by decide) rfl f0 rfl dX6_writes_46 ?_
  refine z_bipush E dX6_writes_49 rfl ?_
  refine z_bipush E dX6_writes_51 rfl ?_
  refine z_iload_n E dX6_writes_53 3 rfl rfl ?_
  refine z_imul E dX6_writes_54 ?_
  refine z_iadd E dX6_writes_55 ?_
  refine z_iconst E dX6_writes_56 ?_
  refine z_iadd E dX6_writes_57 ?_
  refine z_aload_n E dX6_writes_58 0 rfl rfl ?_
  refine z_get E (ci := 6) (N := 16) (C := RX6) (T := TX6) (rfl : vl 16 0 = true) rfl rfl iX6 0 (by decide) rfl f0 rfl dX6_writes_59 ?_
  refine z_bipush E dX6_writes_62 rfl ?_
  refine z_iload_n E dX6_writes_64 1 rfl rfl ?_
  refine z_iadd E dX6_writes_65 ?_
  refine z_iald E (rfl : vl 17 0 = true) 498 rfl (by omega) (by omega) (by omega) dX6_writes_66 ?_
  have hr_6 := hB5.s (6 + b) (by omega)
  refine z_iast E (rfl : vl 17 0 = true) 498 (fun _ => rfl) (by omega) (by omega) (by omega) dX6_writes_67 ?_
  obtain ⟨V7, hV7⟩ : ∃ Z : Vt, Z = up V5 17 0 (updI (V5 17 0) ((10 + (8 * (V 17 0 0))) + 1) (V5 17 0 (6 + b))) := ⟨_, rfl⟩
  rw [← hV7]
  have hB7 : BV V7 := hV7 ▸ BV_up hB5 (by intro _; omega)
  have zqwu0 : V7 = up V 17 0 (wr0 (V 17 0) b) := by rw [hV7, hV5, up_s, upup, updI_n (by omega)] <;> rfl
  have zqwuL := wr0_L (b := b) hm0 a4 hmL
  refine z_iconst E dX6_writes_68 ?_
  refine z_istore E dX6_writes_69 (L' := [some (.ref (ad G 16 0)), some (.int (iI b)), some (.int (iI (mS (V 17 0) (mh (V 17 0) b)))), some (.int (iI (V 17 0 0))), some (.int (iI (V 17 0 1))), some (.int (iI 0))]) (Nat.le_of_ble_eq_true rfl) rfl ?_
  have lp_71_8 : ∀ (fuel : Nat) (p : Int) (Vl_71 : Vt), BV Vl_71 → (0 ≤ p) → (p ≤ 6) → (∃ zqsl, wrC (V 21 0) (mS (V 17 0) (mh (V 17 0) b)) (V 17 0 0) (wr0 (V 17 0) b) (p).toNat zqsl ∧ Vl_71 = up V 17 0 zqsl) → (Vl_71 17 0 0 = V 17 0 0) → (Vl_71 17 0 1 = V 17 0 1) → (∀ k p, 0 ≤ k → k < 16 → 0 ≤ p → p < 6 → 0 ≤ mo (Vl_71 17 0) k (2 + p) ∧ mo (Vl_71 17 0) k (2 + p) < 40) → (6 - p : Int).toNat < fuel → Kz X G P Vl_71 [some (.ref (ad G 16 0)), some (.int (iI b)), some (.int (iI (mS (V 17 0) (mh (V 17 0) b)))), some (.int (iI (V 17 0 0))), some (.int (iI (V 17 0 1))), some (.int (iI p))] 71 [] := by
    intro fuel
    induction fuel with
    | zero => intro p Vl_71 hBl_71 hp0 hp1 hex g0 g1 hLw hf_71; exact absurd hf_71 (Nat.not_lt_zero _)
    | succ fuel ih_71 =>
      intro p Vl_71 hBl_71 hp0 hp1 hex g0 g1 hLw hf_71
      obtain ⟨zqsl, hch, hVl⟩ := hex
      have g17 : Vl_71 17 0 = zqsl := by rw [hVl, up_s]
      have g21 : Vl_71 21 0 = V 21 0 := by rw [hVl]; rfl
      refine z_iload E dX6_writes_71 rfl ?_
      refine z_bipush E dX6_writes_73 rfl ?_
      refine z_icmp_ge E 129 dX6_writes_75 rfl (by omega) (by omega) (fun c_9 => ?_) (fun c_9 => ?_)
      · skip
        refine z_aload_n E dX6_writes_129 0 rfl rfl ?_
        refine z_get E (ci := 6) (N := 16) (C := RX6) (T := TX6) (rfl : vl 16 0 = true) rfl rfl iX6 0 (by decide) rfl f0 rfl dX6_writes_130 ?_
        refine z_iconst E dX6_writes_133 ?_
        refine z_dup2 E dX6_writes_134 rfl rfl ?_
        refine z_iald E (rfl : vl 17 0 = true) 498 rfl (by omega) (by omega) (by omega) dX6_writes_135 ?_
        have hr_10 := hBl_71.s 0 (by omega)
        refine z_iconst E dX6_writes_136 ?_
        refine z_iadd E dX6_writes_137 ?_
        refine z_iast E (rfl : vl 17 0 = true) 498 (fun _ => rfl) (by omega) (by omega) (by omega) dX6_writes_138 ?_
        obtain ⟨V11, hV11⟩ : ∃ Z : Vt, Z = up Vl_71 17 0 (updI (Vl_71 17 0) 0 ((Vl_71 17 0 0) + 1)) := ⟨_, rfl⟩
        rw [← hV11]
        have hB11 : BV V11 := hV11 ▸ BV_up hBl_71 (by intro _; omega)
        have zqe1 : V11 17 0 1 = V 17 0 1 := by rw [hV11, up_s, updI_n (by omega)]; exact g1
        refine z_aload_n E dX6_writes_139 0 rfl rfl ?_
        refine z_get E (ci := 6) (N := 16) (C := RX6) (T := TX6) (rfl : vl 16 0 = true) rfl rfl iX6 0 (by decide) rfl f0 rfl dX6_writes_140 ?_
        refine z_iconst E dX6_writes_143 ?_
        refine z_dup2 E dX6_writes_144 rfl rfl ?_
        refine z_iald E (rfl : vl 17 0 = true) 498 rfl (by omega) (by omega) (by omega) dX6_writes_145 ?_
        have hr_12 := hB11.s 1 (by omega)
        refine z_iconst E dX6_writes_146 ?_
        refine z_iadd E dX6_writes_147 ?_
        refine z_iast E (rfl : vl 17 0 = true) 498 (fun _ => rfl) (by omega) (by omega) (by omega) dX6_writes_148 ?_
        obtain ⟨V13, hV13⟩ : ∃ Z : Vt, Z = up V11 17 0 (updI (V11 17 0) 1 ((V11 17 0 1) + 1)) := ⟨_, rfl⟩
        rw [← hV13]
        have hB13 : BV V13 := hV13 ▸ BV_up hB11 (by intro _; omega)
        refine z_aload_n E dX6_writes_149 0 rfl rfl ?_
        refine z_get E (ci := 6) (N := 16) (C := RX6) (T := TX6) (rfl : vl 16 0 = true) rfl rfl iX6 0 (by decide) rfl f0 rfl dX6_writes_150 ?_
        refine z_bipush E dX6_writes_153 rfl ?_
        refine z_iload_n E dX6_writes_155 1 rfl rfl ?_
        refine z_iadd E dX6_writes_156 ?_
        refine z_iload E dX6_writes_157 rfl ?_
        refine z_iast E (rfl : vl 17 0 = true) 498 (fun _ => rfl) (by omega) (by omega) (by omega) dX6_writes_159 ?_
        obtain ⟨V14, hV14⟩ : ∃ Z : Vt, Z = up V13 17 0 (updI (V13 17 0) (6 + b) (V 17 0 1)) := ⟨_, rfl⟩
        rw [← hV14]
        have hB14 : BV V14 := hV14 ▸ BV_up hB13 (by intro _; omega)
        refine z_iload E dX6_writes_160 rfl ?_
        exact z_iret E dX6_writes_162 (⟨rfl, hB14, rfl, zqsl, by rw [show p = 6 by omega] at hch; exact hch, by rw [hV14, hV13, hV11, hVl]; simp only [up_s, upup]; unfold wr9; rw [wr9_1]⟩)
      · skip
        refine z_aload_n E dX6_writes_78 0 rfl rfl ?_
        refine z_get E (ci := 6) (N := 16) (C := RX6) (T := TX6) (rfl : vl 16 0 = true) rfl rfl iX6 0 (by decide) rfl f0 rfl dX6_writes_79 ?_
        refine z_bipush E dX6_writes_82 rfl ?_
        refine z_bipush E dX6_writes_84 rfl ?_
        refine z_iload_n E dX6_writes_86 3 rfl rfl ?_
        refine z_imul E dX6_writes_87 ?_
        refine z_iadd E dX6_writes_88 ?_
        refine z_iconst E dX6_writes_89 ?_
        refine z_iadd E dX6_writes_90 ?_
        refine z_iload E dX6_writes_91 rfl ?_
        refine z_iadd E dX6_writes_93 ?_
        refine z_aload_n E dX6_writes_94 0 rfl rfl ?_
        refine z_iload_n E dX6_writes_95 2 rfl rfl ?_
        refine z_iload E dX6_writes_96 rfl ?_
        refine z_callV E (ci := 6) (N := 16) (C := RX6) (T := TX6) (n := 2) (st := [.int (iI (((10 + (8 * (V 17 0 0))) + 2) + p)), .ref (ad G 17 0)]) (rfl : vl 16 0 = true) rfl rfl [.int (iI (mS (V 17 0) (mh (V 17 0) b))), .int (iI p)] (kX6_differs l G P Vl_71 (mS (V 17 0) (mh (V 17 0) b)) p hBl_71 (by omega) (by omega) hLw (by omega) (by omega) (by omega) (by omega)) gX6_writes_X6_differs rfl ⟨rfl, rfl⟩ (by decide +kernel) ⟨Nat.le_of_ble_eq_true rfl, Nat.le_of_ble_eq_true rfl⟩ rfl rfl (Nat.le_of_ble_eq_true rfl) rfl dX6_writes_98 (z_dtI ?_)
        refine z_ifeq_b E 113 dX6_writes_101 rfl (fun c_16 => ?_) (fun c_16 => ?_)
        · skip
          refine z_aload_n E dX6_writes_113 0 rfl rfl ?_
          refine z_iload_n E dX6_writes_114 2 rfl rfl ?_
          refine z_iconst E dX6_writes_115 ?_
          refine z_iload E dX6_writes_116 rfl ?_
          refine z_iadd E dX6_writes_118 ?_
          refine z_callV E (ci := 6) (N := 16) (C := RX6) (T := TX6) (n := 2) (st := [.int (iI (((10 + (8 * (V 17 0 0))) + 2) + p)), .ref (ad G 17 0)]) (rfl : vl 16 0 = true) rfl rfl [.int (iI (mS (V 17 0) (mh (V 17 0) b))), .int (iI (2 + p))] (kX6_of l G P Vl_71 (mS (V 17 0) (mh (V 17 0) b)) (2 + p) hBl_71 (by omega) (by omega) (by omega) (by omega)) gX6_writes_X6_of rfl ⟨rfl, rfl⟩ (by decide +kernel) ⟨Nat.le_of_ble_eq_true rfl, Nat.le_of_ble_eq_true rfl⟩ rfl rfl (Nat.le_of_ble_eq_true rfl) rfl dX6_writes_119 (z_dtI ?_)
          have h_17a := mo_R hBl_71 (mS (V 17 0) (mh (V 17 0) b)) (2 + p) (by omega) (by omega)
          refine z_iast E (rfl : vl 17 0 = true) 498 (fun _ => rfl) (by omega) (by omega) (by omega) dX6_writes_122 ?_
          obtain ⟨V18, hV18⟩ : ∃ Z : Vt, Z = up Vl_71 17 0 (updI (Vl_71 17 0) (((10 + (8 * (V 17 0 0))) + 2) + p) (mo (Vl_71 17 0) (mS (V 17 0) (mh (V 17 0) b)) (2 + p))) := ⟨_, rfl⟩
          rw [← hV18]
          have hB18 : BV V18 := hV18 ▸ BV_up hBl_71 (by intro _; omega)
          refine z_iinc E p dX6_writes_123 (L' := [some (.ref (ad G 16 0)), some (.int (iI b)), some (.int (iI (mS (V 17 0) (mh (V 17 0) b)))), some (.int (iI (V 17 0 0))), some (.int (iI (V 17 0 1))), some (.int (iI (p + 1)))]) (Nat.le_of_ble_eq_true rfl) rfl rfl ?_
          refine z_goto E 71 dX6_writes_126 rfl ?_
          have zqwr : wrR (V 21 0) (mS (V 17 0) (mh (V 17 0) b)) (V 17 0 0) zqsl p.toNat (V18 17 0) := by unfold wrR; rw [Int.toNat_of_nonneg hp0]; first | exact Or.inl ⟨by rw [← g17, ← g21]; assumption, by rw [hV18, up_s, g17] <;> rfl⟩ | exact Or.inr ⟨by rw [← g17, ← g21]; assumption, _, zqs1, by rw [← g17, ← g21]; exact zqhbf, by rw [hV18, up_s, zqhV1, up_s] <;> rfl⟩
          have zqwk := wrR_k zqwr hm0 (by omega) (by omega) a3 (by omega) (by rw [← g17]; exact hLw)
          have zqwV : V18 = up V 17 0 (V18 17 0) := by first | (simp only [hV18, zqhV1, hVl, up_s, upup]; done) | (simp only [hV18, hVl, up_s, upup]; done)
          exact ih_71 (p + 1) V18 hB18 (by omega) (by omega) ⟨_, by rw [show (p + 1).toNat = p.toNat + 1 by omega]; exact ⟨zqsl, hch, zqwr⟩, zqwV⟩ (by rw [zqwk.2.1, ← g17]; exact g0) (by rw [zqwk.2.2.1, ← g17]; exact g1) zqwk.1 (by omega)
        · skip
          refine z_aload_n E dX6_writes_104 0 rfl rfl ?_
          refine z_iload E dX6_writes_105 rfl ?_
          refine z_callV E (ci := 6) (N := 16) (C := RX6) (T := TX6) (n := 1) (st := [.int (iI (((10 + (8 * (V 17 0 0))) + 2) + p)), .ref (ad G 17 0)]) (rfl : vl 16 0 = true) rfl rfl [.int (iI p)] (kX6_blockFor l G P Vl_71 p hBl_71 (by omega) (by omega) (fun z => by rw [g17]; exact hfree p.toNat zqsl (by omega) hch (by rw [Int.toNat_of_nonneg hp0, ← g17, ← g21]; assumption) (by rw [Int.toNat_of_nonneg hp0, ← g17, ← g21]; exact z))) gX6_writes_X6_blockFor rfl ⟨rfl, rfl⟩ (by decide +kernel) ⟨Nat.le_of_ble_eq_true rfl, Nat.le_of_ble_eq_true rfl⟩ rfl rfl (Nat.le_of_ble_eq_true rfl) rfl dX6_writes_107 (z_exI (fun r_19 P_19 V_19 h_19 => ?_))
          obtain ⟨hP_19, hB_19, h_19⟩ := h_19
          rw [hP_19]
          obtain ⟨zqs1, zqhbf, zqhV1⟩ := h_19
          have zqhbk := bfR_k zqhbf
          have zqg01 : V_19 17 0 0 = V 17 0 0 := by rw [zqhV1, up_s, zqhbk.2.2.2.1]; exact g0
          refine z_goto E 122 dX6_writes_110 rfl ?_
          refine z_iast E (rfl : vl 17 0 = true) 498 (fun _ => rfl) (by omega) (by omega) (by omega) dX6_writes_122 ?_
          obtain ⟨V20, hV20⟩ : ∃ Z : Vt, Z = up V_19 17 0 (updI (V_19 17 0) (((10 + (8 * (V 17 0 0))) + 2) + p) r_19) := ⟨_, rfl⟩
          rw [← hV20]
          have hB20 : BV V20 := hV20 ▸ BV_up hB_19 (by intro _; omega)
          refine z_iinc E p dX6_writes_123 (L' := [some (.ref (ad G 16 0)), some (.int (iI b)), some (.int (iI (mS (V 17 0) (mh (V 17 0) b)))), some (.int (iI (V 17 0 0))), some (.int (iI (V 17 0 1))), some (.int (iI (p + 1)))]) (Nat.le_of_ble_eq_true rfl) rfl rfl ?_
          refine z_goto E 71 dX6_writes_126 rfl ?_
          have zqwr : wrR (V 21 0) (mS (V 17 0) (mh (V 17 0) b)) (V 17 0 0) zqsl p.toNat (V20 17 0) := by unfold wrR; rw [Int.toNat_of_nonneg hp0]; first | exact Or.inl ⟨by rw [← g17, ← g21]; assumption, by rw [hV20, up_s, g17] <;> rfl⟩ | exact Or.inr ⟨by rw [← g17, ← g21]; assumption, _, zqs1, by rw [← g17, ← g21]; exact zqhbf, by rw [hV20, up_s, zqhV1, up_s] <;> rfl⟩
          have zqwk := wrR_k zqwr hm0 (by omega) (by omega) a3 (by omega) (by rw [← g17]; exact hLw)
          have zqwV : V20 = up V 17 0 (V20 17 0) := by first | (simp only [hV20, zqhV1, hVl, up_s, upup]; done) | (simp only [hV20, hVl, up_s, upup]; done)
          exact ih_71 (p + 1) V20 hB20 (by omega) (by omega) ⟨_, by rw [show (p + 1).toNat = p.toNat + 1 by omega]; exact ⟨zqsl, hch, zqwr⟩, zqwV⟩ (by rw [zqwk.2.1, ← g17]; exact g0) (by rw [zqwk.2.2.1, ← g17]; exact g1) zqwk.1 (by omega)
  exact lp_71_8 ((6 - 0 : Int).toNat + 1) 0 V7 hB7 (by omega) (by omega) ⟨_, rfl, zqwu0⟩ (by rw [zqwu0, up_s]; exact wr0_0 hm0) (by rw [zqwu0, up_s]; exact wr0_1 hm0) (by rw [zqwu0, up_s]; exact zqwuL) (Nat.lt_succ_self _)
