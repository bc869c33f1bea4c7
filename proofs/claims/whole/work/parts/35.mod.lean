set_option maxHeartbeats 4000000 in
set_option maxRecDepth 100000 in
theorem kX6_branch (l : Launch) (G : Gl) (P : Nat → Nat) (V : Vt) (x : Int) (hB : BV V) (hm0 : 0 ≤ V 17 0 0) (hm1 : V 17 0 0 ≤ 16) (hq : 0 ≤ V 16 0 3 ∧ V 16 0 3 ≤ 4) (hq4 : inR (V 16 0 4)) (r1 : inR x) : Met l yX6_branch wsX6_branch ({ frames := 3, cells := 0, slots := 0, locals := 65 }) (va_Pc [.ref (ad G 16 0), .int (iI x)] (Sg G P V)) (Qk G mkI (fun r P' V' => P' = P ∧ BV V' ∧ ((¬ (0 ≤ fO (mS (V 17 0) x)) ∧ r = -1000001 ∧ V' = V) ∨ ((0 ≤ fO (mS (V 17 0) x)) ∧ FBm (V 17 0) = -1 ∧ r = -1000003 ∧ V' = V) ∨ ((0 ≤ fO (mS (V 17 0) x)) ∧ 0 ≤ FBm (V 17 0) ∧ r = FBm (V 17 0) ∧ V' = up (chV V) 17 0 (updI (V 17 0) (6 + r) x))))) 0 0 (mem G) := by
  refine z_met (cc := cX6_branch) (nL := 3) (ret := (some .int)) (own := RX6) (by decide +kernel) rfl rfl (Nat.le_of_ble_eq_true rfl) (zz_cat rfl) (L := [some (.ref (ad G 16 0)), some (.int (iI x)), none]) rfl ?_
  intro X E
  have iX6 : ∀ x ∈ wsX60, x ∈ wsX6_branch := by decide +kernel
  have f0 : Cond.fieldLink RX6 7 "SharedStatesModel" "s" "[I" ∈ wsX6_branch := by decide +kernel
  have f1 : Cond.constant RX6 94 (-1000003) ∈ wsX6_branch := by decide +kernel
  have f2 : Cond.constant RX6 111 (-1000001) ∈ wsX6_branch := by decide +kernel
  refine z_aload_n E dX6_branch_0 0 rfl rfl ?_
  refine z_iload_n E dX6_branch_1 1 rfl rfl ?_
  refine z_callV E (ci := 6) (N := 16) (C := RX6) (T := TX6) (n := 1) (st := []) (rfl : vl 16 0 = true) rfl rfl [.int (iI x)] (kX6_isState l G P V x hB (by omega) (by omega) (by omega)) gX6_branch_X6_isState rfl ⟨rfl, rfl⟩ (by decide +kernel) ⟨Nat.le_of_ble_eq_true rfl, Nat.le_of_ble_eq_true rfl⟩ rfl rfl (Nat.le_of_ble_eq_true rfl) rfl dX6_branch_2 (z_dtI ?_)
  have h_1a := mS_c (V 17 0) x
  refine z_ifne_b E 11 dX6_branch_5 rfl (fun c_2 => ?_) (fun c_2 => ?_)
  · skip
    refine z_iconst E dX6_branch_11 ?_
    refine z_istore_n E dX6_branch_12 2 rfl (L' := [some (.ref (ad G 16 0)), some (.int (iI x)), some (.int (iI 0))]) (Nat.le_of_ble_eq_true rfl) rfl ?_
    have lp_13_3 : ∀ (fuel : Nat) (b : Int), (0 ≤ b) → (b ≤ 4) → (∀ d, 0 ≤ d → d < b → ¬ ¬ 0 ≤ mh (V 17 0) d) → (4 - b : Int).toNat < fuel → Kz X G P V [some (.ref (ad G 16 0)), some (.int (iI x)), some (.int (iI b))] 13 [] := by
      intro fuel
      induction fuel with
      | zero => intro b hb0 hb1 hla hf_13; exact absurd hf_13 (Nat.not_lt_zero _)
      | succ fuel ih_13 =>
        intro b hb0 hb1 hla hf_13
        refine z_iload_n E dX6_branch_13 2 rfl rfl ?_
        refine z_iconst E dX6_branch_14 ?_
        refine z_icmp_ge E 36 dX6_branch_15 rfl (by omega) (by omega) (fun c_4 => ?_) (fun c_4 => ?_)
        · skip
          refine z_iload_n E dX6_branch_36 2 rfl rfl ?_
          refine z_iconst E dX6_branch_37 ?_
          refine z_icmp_ne E 44 dX6_branch_38 rfl (by omega) (by omega) (fun c_5 => ?_) (fun c_5 => ?_)
          · skip
            refine z_aload_n E dX6_branch_44 0 rfl rfl ?_
            refine z_callV E (ci := 6) (N := 16) (C := RX6) (T := TX6) (n := 0) (st := []) (rfl : vl 16 0 = true) rfl rfl [] (kX6_changes l G P V  hB (by omega) (by omega)) gX6_branch_X6_changes rfl ⟨rfl, rfl⟩ (by decide +kernel) ⟨Nat.le_of_ble_eq_true rfl, Nat.le_of_ble_eq_true rfl⟩ rfl rfl (Nat.le_of_ble_eq_true rfl) rfl dX6_branch_45 (z_exV (fun P_6 V_6 h_6 => ?_))
            obtain ⟨hP_6, hB_6, h_6⟩ := h_6
            rw [hP_6]
            have zqc := h_6
            have zq17 : V_6 17 0 = V 17 0 := by rw [zqc, ch_o (by decide) (by decide)]
            refine z_aload_n E dX6_branch_48 0 rfl rfl ?_
            refine z_get E (ci := 6) (N := 16) (C := RX6) (T := TX6) (rfl : vl 16 0 = true) rfl rfl iX6 0 (by decide) rfl f0 rfl dX6_branch_49 ?_
            refine z_bipush E dX6_branch_52 rfl ?_
            refine z_iload_n E dX6_branch_54 2 rfl rfl ?_
            refine z_iadd E dX6_branch_55 ?_
            refine z_iload_n E dX6_branch_56 1 rfl rfl ?_
            refine z_iast E (rfl : vl 17 0 = true) 498 (fun _ => rfl) (by omega) (by omega) (by omega) dX6_branch_57 ?_
            obtain ⟨V7, hV7⟩ : ∃ Z : Vt, Z = up V_6 17 0 (updI (V_6 17 0) (6 + b) x) := ⟨_, rfl⟩
            rw [← hV7]
            have hB7 : BV V7 := hV7 ▸ BV_up hB_6 (by intro _; omega)
            refine z_iload_n E dX6_branch_58 2 rfl rfl ?_
            exact z_iret E dX6_branch_59 (by
                have zqf : FBm (V 17 0) = b := fnd_y (by omega) (by omega) (by unfold mh; omega) hla
                exact ⟨rfl, hB7, Or.inr (Or.inr ⟨by assumption, by omega, zqf.symm, by rw [hV7, zq17, zqc]⟩)⟩)
          · skip
            refine z_ldc E (-1000003) f1 rfl dX6_branch_41 ?_
            exact z_iret E dX6_branch_43 (⟨rfl, hB, Or.inr (Or.inl ⟨by assumption, fnd_n (fun j h0 h1 => hla j h0 (by omega)), rfl, rfl⟩)⟩)
        · skip
          refine z_aload_n E dX6_branch_18 0 rfl rfl ?_
          refine z_get E (ci := 6) (N := 16) (C := RX6) (T := TX6) (rfl : vl 16 0 = true) rfl rfl iX6 0 (by decide) rfl f0 rfl dX6_branch_19 ?_
          refine z_bipush E dX6_branch_22 rfl ?_
          refine z_iload_n E dX6_branch_24 2 rfl rfl ?_
          refine z_iadd E dX6_branch_25 ?_
          refine z_iald E (rfl : vl 17 0 = true) 498 rfl (by omega) (by omega) (by omega) dX6_branch_26 ?_
          have hr_8 := hB.s (6 + b) (by omega)
          refine z_if_lt E 36 dX6_branch_27 rfl (by omega) (fun c_9 => ?_) (fun c_9 => ?_)
          · skip
            refine z_iload_n E dX6_branch_36 2 rfl rfl ?_
            refine z_iconst E dX6_branch_37 ?_
            refine z_icmp_ne E 44 dX6_branch_38 rfl (by omega) (by omega) (fun c_10 => ?_) (fun c_10 => ?_)
            · skip
              refine z_aload_n E dX6_branch_44 0 rfl rfl ?_
              refine z_callV E (ci := 6) (N := 16) (C := RX6) (T := TX6) (n := 0) (st := []) (rfl : vl 16 0 = true) rfl rfl [] (kX6_changes l G P V  hB (by omega) (by omega)) gX6_branch_X6_changes rfl ⟨rfl, rfl⟩ (by decide +kernel) ⟨Nat.le_of_ble_eq_true rfl, Nat.le_of_ble_eq_true rfl⟩ rfl rfl (Nat.le_of_ble_eq_true rfl) rfl dX6_branch_45 (z_exV (fun P_11 V_11 h_11 => ?_))
              obtain ⟨hP_11, hB_11, h_11⟩ := h_11
              rw [hP_11]
              have zqc := h_11
              have zq17 : V_11 17 0 = V 17 0 := by rw [zqc, ch_o (by decide) (by decide)]
              refine z_aload_n E dX6_branch_48 0 rfl rfl ?_
              refine z_get E (ci := 6) (N := 16) (C := RX6) (T := TX6) (rfl : vl 16 0 = true) rfl rfl iX6 0 (by decide) rfl f0 rfl dX6_branch_49 ?_
              refine z_bipush E dX6_branch_52 rfl ?_
              refine z_iload_n E dX6_branch_54 2 rfl rfl ?_
              refine z_iadd E dX6_branch_55 ?_
              refine z_iload_n E dX6_branch_56 1 rfl rfl ?_
              refine z_iast E (rfl : vl 17 0 = true) 498 (fun _ => rfl) (by omega) (by omega) (by omega) dX6_branch_57 ?_
              obtain ⟨V12, hV12⟩ : ∃ Z : Vt, Z = up V_11 17 0 (updI (V_11 17 0) (6 + b) x) := ⟨_, rfl⟩
              rw [← hV12]
              have hB12 : BV V12 := hV12 ▸ BV_up hB_11 (by intro _; omega)
              refine z_iload_n E dX6_branch_58 2 rfl rfl ?_
              exact z_iret E dX6_branch_59 (by
                  have zqf : FBm (V 17 0) = b := fnd_y (by omega) (by omega) (by unfold mh; omega) hla
                  exact ⟨rfl, hB12, Or.inr (Or.inr ⟨by assumption, by omega, zqf.symm, by rw [hV12, zq17, zqc]⟩)⟩)
            · skip
              refine z_ldc E (-1000003) f1 rfl dX6_branch_41 ?_
              exact z_iret E dX6_branch_43 (⟨rfl, hB, Or.inr (Or.inl ⟨by assumption, fnd_n (fun j h0 h1 => hla j h0 (by omega)), rfl, rfl⟩)⟩)
          · skip
            refine z_iinc E b dX6_branch_30 (L' := [some (.ref (ad G 16 0)), some (.int (iI x)), some (.int (iI (b + 1)))]) (Nat.le_of_ble_eq_true rfl) rfl rfl ?_
            refine z_goto E 13 dX6_branch_33 rfl ?_
            exact ih_13 (b + 1) (by omega) (by omega) (all_s hla (by unfold mh; omega)) (by omega)
    exact lp_13_3 ((4 - 0 : Int).toNat + 1) 0 (by omega) (by omega) all_0 (Nat.lt_succ_self _)
  · skip
    refine z_ldc E (-1000001) f2 rfl dX6_branch_8 ?_
    exact z_iret E dX6_branch_10 (⟨rfl, hB, Or.inl ⟨by assumption, rfl, rfl⟩⟩)

set_option maxHeartbeats 4000000 in
set_option maxRecDepth 100000 in
theorem kX6_leave (l : Launch) (G : Gl) (P : Nat → Nat) (V : Vt) (b : Int) (hB : BV V) (hq : 0 ≤ V 16 0 3 ∧ V 16 0 3 ≤ 4) (hq4 : inR (V 16 0 4)) (r1 : inR b) : Met l yX6_leave wsX6_leave ({ frames := 2, cells := 0, slots := 0, locals := 43 }) (va_Pc [.ref (ad G 16 0), .int (iI b)] (Sg G P V)) (Qk G mkI (fun r P' V' => P' = P ∧ BV V' ∧ ((¬ (0 ≤ b ∧ b ≤ 3 ∧ 0 ≤ mh (V 17 0) b) ∧ r = -1000001 ∧ V' = V) ∨ ((0 ≤ b ∧ b ≤ 3 ∧ 0 ≤ mh (V 17 0) b) ∧ sm 4 (fun d => b2i (0 ≤ mh (V 17 0) d)) = 1 ∧ r = -1000002 ∧ V' = V) ∨ ((0 ≤ b ∧ b ≤ 3 ∧ 0 ≤ mh (V 17 0) b) ∧ ¬ sm 4 (fun d => b2i (0 ≤ mh (V 17 0) d)) = 1 ∧ V' = up (chV V) 17 0 (updI (V 17 0) (6 + b) (-1)) ∧ r = sm 4 (fun d => b2i (0 ≤ mh (V' 17 0) d)))))) 0 0 (mem G) := by
  refine z_met (cc := cX6_leave) (nL := 2) (ret := (some .int)) (own := RX6) (by decide +kernel) rfl rfl (Nat.le_of_ble_eq_true rfl) (zz_cat rfl) (L := [some (.ref (ad G 16 0)), some (.int (iI b))]) rfl ?_
  intro X E
  have iX6 : ∀ x ∈ wsX60, x ∈ wsX6_leave := by decide +kernel
  have f0 : Cond.fieldLink RX6 7 "SharedStatesModel" "s" "[I" ∈ wsX6_leave := by decide +kernel
  have f1 : Cond.constant RX6 134 (-1000002) ∈ wsX6_leave := by decide +kernel
  have f2 : Cond.constant RX6 111 (-1000001) ∈ wsX6_leave := by decide +kernel
  refine z_aload_n E dX6_leave_0 0 rfl rfl ?_
  refine z_iload_n E dX6_leave_1 1 rfl rfl ?_
  refine z_callV E (ci := 6) (N := 16) (C := RX6) (T := TX6) (n := 1) (st := []) (rfl : vl 16 0 = true) rfl rfl [.int (iI b)] (kX6_isBranch l G P V b hB (by omega)) gX6_leave_X6_isBranch rfl ⟨rfl, rfl⟩ (by decide +kernel) ⟨Nat.le_of_ble_eq_true rfl, Nat.le_of_ble_eq_true rfl⟩ rfl rfl (Nat.le_of_ble_eq_true rfl) rfl dX6_leave_2 (z_dtI ?_)
  refine z_ifne_b E 11 dX6_leave_5 rfl (fun c_2 => ?_) (fun c_2 => ?_)
  · skip
    refine z_aload_n E dX6_leave_11 0 rfl rfl ?_
    refine z_callV E (ci := 6) (N := 16) (C := RX6) (T := TX6) (n := 0) (st := []) (rfl : vl 16 0 = true) rfl rfl [] (kX6_branches l G P V  hB) gX6_leave_X6_branches rfl ⟨rfl, rfl⟩ (by decide +kernel) ⟨Nat.le_of_ble_eq_true rfl, Nat.le_of_ble_eq_true rfl⟩ rfl rfl (Nat.le_of_ble_eq_true rfl) rfl dX6_leave_12 (z_dtI ?_)
    have h_3a := sm_b2i_bd (n := 4) (p := fun b => 0 ≤ mh (V 17 0) b) (by omega)
    refine z_iconst E dX6_leave_15 ?_
    refine z_icmp_ne E 22 dX6_leave_16 rfl (by omega) (by omega) (fun c_4 => ?_) (fun c_4 => ?_)
    · skip
      refine z_aload_n E dX6_leave_22 0 rfl rfl ?_
      refine z_callV E (ci := 6) (N := 16) (C := RX6) (T := TX6) (n := 0) (st := []) (rfl : vl 16 0 = true) rfl rfl [] (kX6_changes l G P V  hB (by omega) (by omega)) gX6_leave_X6_changes rfl ⟨rfl, rfl⟩ (by decide +kernel) ⟨Nat.le_of_ble_eq_true rfl, Nat.le_of_ble_eq_true rfl⟩ rfl rfl (Nat.le_of_ble_eq_true rfl) rfl dX6_leave_23 (z_exV (fun P_5 V_5 h_5 => ?_))
      obtain ⟨hP_5, hB_5, h_5⟩ := h_5
      rw [hP_5]
      have zqc := h_5
      have zq17 : V_5 17 0 = V 17 0 := by rw [zqc, ch_o (by decide) (by decide)]
      refine z_aload_n E dX6_leave_26 0 rfl rfl ?_
      refine z_get E (ci := 6) (N := 16) (C := RX6) (T := TX6) (rfl : vl 16 0 = true) rfl rfl iX6 0 (by decide) rfl f0 rfl dX6_leave_27 ?_
      refine z_bipush E dX6_leave_30 rfl ?_
      refine z_iload_n E dX6_leave_32 1 rfl rfl ?_
      refine z_iadd E dX6_leave_33 ?_
      refine z_iconst E dX6_leave_34 ?_
      refine z_iast E (rfl : vl 17 0 = true) 498 (fun _ => rfl) (by omega) (by omega) (by omega) dX6_leave_35 ?_
      obtain ⟨V6, hV6⟩ : ∃ Z : Vt, Z = up V_5 17 0 (updI (V_5 17 0) (6 + b) (-1)) := ⟨_, rfl⟩
      rw [← hV6]
      have hB6 : BV V6 := hV6 ▸ BV_up hB_5 (by intro _; omega)
      refine z_aload_n E dX6_leave_36 0 rfl rfl ?_
      refine z_callV E (ci := 6) (N := 16) (C := RX6) (T := TX6) (n := 0) (st := []) (rfl : vl 16 0 = true) rfl rfl [] (kX6_branches l G P V6  hB6) gX6_leave_X6_branches rfl ⟨rfl, rfl⟩ (by decide +kernel) ⟨Nat.le_of_ble_eq_true rfl, Nat.le_of_ble_eq_true rfl⟩ rfl rfl (Nat.le_of_ble_eq_true rfl) rfl dX6_leave_37 (z_dtI ?_)
      have h_7a := sm_b2i_bd (n := 4) (p := fun b => 0 ≤ mh (V6 17 0) b) (by omega)
      exact z_iret E dX6_leave_40 (⟨rfl, hB6, Or.inr (Or.inr ⟨by assumption, by assumption, by rw [hV6, zq17, zqc], rfl⟩)⟩)
    · skip
      refine z_ldc E (-1000002) f1 rfl dX6_leave_19 ?_
      exact z_iret E dX6_leave_21 (⟨rfl, hB, Or.inr (Or.inl ⟨by assumption, by assumption, rfl, rfl⟩)⟩)
  · skip
    refine z_ldc E (-1000001) f2 rfl dX6_leave_8 ?_
    exact z_iret E dX6_leave_10 (⟨rfl, hB, Or.inl ⟨by assumption, rfl, rfl⟩⟩)

set_option maxHeartbeats 4000000 in
set_option maxRecDepth 100000 in
theorem kX6_back (l : Launch) (G : Gl) (P : Nat → Nat) (V : Vt) (b : Int) (hB : BV V) (hm0 : 0 ≤ V 17 0 0) (hm1 : V 17 0 0 ≤ 16) (hmL : ∀ k p, 0 ≤ k → k < 16 → 0 ≤ p → p < 6 → 0 ≤ mo (V 17 0) k (2 + p) ∧ mo (V 17 0) k (2 + p) < 40) (hH : MH (V 17 0)) (hq : 0 ≤ V 16 0 3 ∧ V 16 0 3 ≤ 4) (hq4 : inR (V 16 0 4)) (r1 : inR b) : Met l yX6_back wsX6_back ({ frames := 2, cells := 0, slots := 0, locals := 44 }) (va_Pc [.ref (ad G 16 0), .int (iI b)] (Sg G P V)) (Qk G mkI (fun r P' V' => P' = P ∧ BV V' ∧ ((¬ (0 ≤ b ∧ b ≤ 3 ∧ 0 ≤ mh (V 17 0) b) ∧ r = -1000001 ∧ V' = V) ∨ ((0 ≤ b ∧ b ≤ 3 ∧ 0 ≤ mh (V 17 0) b) ∧ mh (V 17 0) b = 0 ∧ r = -1000002 ∧ V' = V) ∨ ((0 ≤ b ∧ b ≤ 3 ∧ 0 ≤ mh (V 17 0) b) ∧ ¬ mh (V 17 0) b = 0 ∧ r = gM (V 17 0) (mh (V 17 0) b) ∧ V' = up (chV V) 17 0 (updI (V 17 0) (6 + b) r))))) 0 0 (mem G) := by
  refine z_met (cc := cX6_back) (nL := 3) (ret := (some .int)) (own := RX6) (by decide +kernel) rfl rfl (Nat.le_of_ble_eq_true rfl) (zz_cat rfl) (L := [some (.ref (ad G 16 0)), some (.int (iI b)), none]) rfl ?_
  intro X E
  have iX6 : ∀ x ∈ wsX60, x ∈ wsX6_back := by decide +kernel
  have f0 : Cond.fieldLink RX6 7 "SharedStatesModel" "s" "[I" ∈ wsX6_back := by decide +kernel
  have f1 : Cond.constant RX6 134 (-1000002) ∈ wsX6_back := by decide +kernel
  have f2 : Cond.constant RX6 111 (-1000001) ∈ wsX6_back := by decide +kernel
  refine z_aload_n E dX6_back_0 0 rfl rfl ?_
  refine z_iload_n E dX6_back_1 1 rfl rfl ?_
  refine z_callV E (ci := 6) (N := 16) (C := RX6) (T := TX6) (n := 1) (st := []) (rfl : vl 16 0 = true) rfl rfl [.int (iI b)] (kX6_isBranch l G P V b hB (by omega)) gX6_back_X6_isBranch rfl ⟨rfl, rfl⟩ (by decide +kernel) ⟨Nat.le_of_ble_eq_true rfl, Nat.le_of_ble_eq_true rfl⟩ rfl rfl (Nat.le_of_ble_eq_true rfl) rfl dX6_back_2 (z_dtI ?_)
  refine z_ifne_b E 11 dX6_back_5 rfl (fun c_2 => ?_) (fun c_2 => ?_)
  · skip
    refine z_aload_n E dX6_back_11 0 rfl rfl ?_
    refine z_get E (ci := 6) (N := 16) (C := RX6) (T := TX6) (rfl : vl 16 0 = true) rfl rfl iX6 0 (by decide) rfl f0 rfl dX6_back_12 ?_
    refine z_bipush E dX6_back_15 rfl ?_
    refine z_iload_n E dX6_back_17 1 rfl rfl ?_
    refine z_iadd E dX6_back_18 ?_
    refine z_iald E (rfl : vl 17 0 = true) 498 rfl (by omega) (by omega) (by omega) dX6_back_19 ?_
    have hr_3 := hB.s (6 + b) (by omega)
    refine z_istore_n E dX6_back_20 2 rfl (L' := [some (.ref (ad G 16 0)), some (.int (iI b)), some (.int (iI (V 17 0 (6 + b))))]) (Nat.le_of_ble_eq_true rfl) rfl ?_
    refine z_iload_n E dX6_back_21 2 rfl rfl ?_
    refine z_if_ne E 28 dX6_back_22 rfl (by omega) (fun c_4 => ?_) (fun c_4 => ?_)
    · skip
      refine z_aload_n E dX6_back_28 0 rfl rfl ?_
      refine z_callV E (ci := 6) (N := 16) (C := RX6) (T := TX6) (n := 0) (st := []) (rfl : vl 16 0 = true) rfl rfl [] (kX6_changes l G P V  hB (by omega) (by omega)) gX6_back_X6_changes rfl ⟨rfl, rfl⟩ (by decide +kernel) ⟨Nat.le_of_ble_eq_true rfl, Nat.le_of_ble_eq_true rfl⟩ rfl rfl (Nat.le_of_ble_eq_true rfl) rfl dX6_back_29 (z_exV (fun P_5 V_5 h_5 => ?_))
      obtain ⟨hP_5, hB_5, h_5⟩ := h_5
      rw [hP_5]
      have zqc := h_5
      have zq17 : V_5 17 0 = V 17 0 := by rw [zqc, ch_o (by decide) (by decide)]
      have zqm0 : 0 ≤ V_5 17 0 0 := by rw [zq17]; exact hm0
      have zqm1 : V_5 17 0 0 ≤ 16 := by rw [zq17]; exact hm1
      refine z_aload_n E dX6_back_32 0 rfl rfl ?_
      refine z_get E (ci := 6) (N := 16) (C := RX6) (T := TX6) (rfl : vl 16 0 = true) rfl rfl iX6 0 (by decide) rfl f0 rfl dX6_back_33 ?_
      refine z_bipush E dX6_back_36 rfl ?_
      refine z_iload_n E dX6_back_38 1 rfl rfl ?_
      refine z_iadd E dX6_back_39 ?_
      refine z_aload_n E dX6_back_40 0 rfl rfl ?_
      refine z_aload_n E dX6_back_41 0 rfl rfl ?_
      refine z_iload_n E dX6_back_42 2 rfl rfl ?_
      refine z_callV E (ci := 6) (N := 16) (C := RX6) (T := TX6) (n := 1) (st := [.ref (ad G 16 0), .int (iI (6 + b)), .ref (ad G 17 0)]) (rfl : vl 16 0 = true) rfl rfl [.int (iI (V 17 0 (6 + b)))] (kX6_slot l G P V_5 (V 17 0 (6 + b)) hB_5 (by omega) (by omega) (by omega)) gX6_back_X6_slot rfl ⟨rfl, rfl⟩ (by decide +kernel) ⟨Nat.le_of_ble_eq_true rfl, Nat.le_of_ble_eq_true rfl⟩ rfl rfl (Nat.le_of_ble_eq_true rfl) rfl dX6_back_43 (z_dtI ?_)
      have h_6a := mS_c (V_5 17 0) (V 17 0 (6 + b))
      rw [zq17] at h_6a ⊢
      have zqh := hH.1 b (by omega) (by omega) (by omega)
      have zqq : fO (mS (V 17 0) (V 17 0 (6 + b))) = mS (V 17 0) (mh (V 17 0) b) := by unfold mh at zqh ⊢; omega
      rw [zqq]
      have zqq2 : mS (V 17 0) (mh (V 17 0) b) < V 17 0 0 := by unfold mh at zqh ⊢; omega
      refine z_iconst E dX6_back_46 ?_
      refine z_callV E (ci := 6) (N := 16) (C := RX6) (T := TX6) (n := 2) (st := [.int (iI (6 + b)), .ref (ad G 17 0)]) (rfl : vl 16 0 = true) rfl rfl [.int (iI (mS (V 17 0) (mh (V 17 0) b))), .int (iI 1)] (kX6_of l G P V_5 (mS (V 17 0) (mh (V 17 0) b)) 1 hB_5 (by omega) (by omega) (by omega) (by omega)) gX6_back_X6_of rfl ⟨rfl, rfl⟩ (by decide +kernel) ⟨Nat.le_of_ble_eq_true rfl, Nat.le_of_ble_eq_true rfl⟩ rfl rfl (Nat.le_of_ble_eq_true rfl) rfl dX6_back_47 (z_dtI ?_)
      have h_7a := mo_R hB_5 (mS (V 17 0) (mh (V 17 0) b)) 1 (by omega) (by omega)
      rw [zq17] at h_7a ⊢
      refine z_iast E (rfl : vl 17 0 = true) 498 (fun _ => rfl) (by omega) (by omega) (by omega) dX6_back_50 ?_
      obtain ⟨V8, hV8⟩ : ∃ Z : Vt, Z = up V_5 17 0 (updI (V_5 17 0) (6 + b) (mo (V 17 0) (mS (V 17 0) (mh (V 17 0) b)) 1)) := ⟨_, rfl⟩
      rw [← hV8]
      have hB8 : BV V8 := hV8 ▸ BV_up hB_5 (by intro _; omega)
      refine z_aload_n E dX6_back_51 0 rfl rfl ?_
      refine z_get E (ci := 6) (N := 16) (C := RX6) (T := TX6) (rfl : vl 16 0 = true) rfl rfl iX6 0 (by decide) rfl f0 rfl dX6_back_52 ?_
      refine z_bipush E dX6_back_55 rfl ?_
      refine z_iload_n E dX6_back_57 1 rfl rfl ?_
      refine z_iadd E dX6_back_58 ?_
      refine z_iald E (rfl : vl 17 0 = true) 498 rfl (by omega) (by omega) (by omega) dX6_back_59 ?_
      have hr_9 := hB8.s (6 + b) (by omega)
      exact z_iret E dX6_back_60 (by
          have zqe : V8 17 0 (6 + b) = gM (V 17 0) (mh (V 17 0) b) := by rw [hV8, up_s, updI_s] <;> rfl
          exact ⟨rfl, hB8, Or.inr (Or.inr ⟨by assumption, by unfold mh; assumption, zqe, by rw [zqe, hV8, zq17, zqc] <;> rfl⟩)⟩)
    · skip
      refine z_ldc E (-1000002) f1 rfl dX6_back_25 ?_
      exact z_iret E dX6_back_27 (⟨rfl, hB, Or.inr (Or.inl ⟨by assumption, by unfold mh; assumption, rfl, rfl⟩)⟩)
  · skip
    refine z_ldc E (-1000001) f2 rfl dX6_back_8 ?_
    exact z_iret E dX6_back_10 (⟨rfl, hB, Or.inl ⟨by assumption, rfl, rfl⟩⟩)

set_option maxHeartbeats 4000000 in
set_option maxRecDepth 100000 in
theorem kX6_set (l : Launch) (G : Gl) (P : Nat → Nat) (V : Vt) (what : Int) (value : Int) (hB : BV V) (hq : 0 ≤ V 16 0 3 ∧ V 16 0 3 ≤ 4) (hq4 : inR (V 16 0 4)) (r1 : inR what) (r2 : inR value) : Met l yX6_set wsX6_set ({ frames := 1, cells := 0, slots := 0, locals := 22 }) (va_Pc [.ref (ad G 16 0), .int (iI what), .int (iI value)] (Sg G P V)) (Qk G mkI (fun r P' V' => P' = P ∧ BV V' ∧ ((¬ (what = 0 ∧ 0 ≤ value ∧ value ≤ 1) ∧ r = -1000001 ∧ V' = V) ∨ ((what = 0 ∧ 0 ≤ value ∧ value ≤ 1) ∧ r = V 17 0 5 ∧ V' = up (chV V) 17 0 (updI (V 17 0) 5 value))))) 0 0 (mem G) := by
  refine z_met (cc := cX6_set) (nL := 4) (ret := (some .int)) (own := RX6) (by decide +kernel) rfl rfl (Nat.le_of_ble_eq_true rfl) (zz_cat rfl) (L := [some (.ref (ad G 16 0)), some (.int (iI what)), some (.int (iI value)), none]) rfl ?_
  intro X E
  have iX6 : ∀ x ∈ wsX60, x ∈ wsX6_set := by decide +kernel
  have f0 : Cond.constant RX6 111 (-1000001) ∈ wsX6_set := by decide +kernel
  have f1 : Cond.fieldLink RX6 7 "SharedStatesModel" "s" "[I" ∈ wsX6_set := by decide +kernel
  refine z_iload_n E dX6_set_0 1 rfl rfl ?_
  refine z_if_ne E 13 dX6_set_1 rfl (by omega) (fun c_1 => ?_) (fun c_1 => ?_)
  · skip
    refine z_ldc E (-1000001) f0 rfl dX6_set_13 ?_
    exact z_iret E dX6_set_15 (⟨rfl, hB, Or.inl ⟨by omega, rfl, rfl⟩⟩)
  · skip
    refine z_iload_n E dX6_set_4 2 rfl rfl ?_
    refine z_iconst E dX6_set_5 ?_
    refine z_iconst E dX6_set_6 ?_
    refine z_callS E (n := 3) (st := []) [.int (iI value), .int (iI 0), .int (iI 1)] (kX6_in l G P V value 0 1 (by omega) (by omega) (by omega)) gX6_set_X6_in rfl ⟨rfl, rfl⟩ (by decide +kernel) ⟨Nat.le_of_ble_eq_true rfl, Nat.le_of_ble_eq_true rfl⟩ rfl rfl (Nat.le_of_ble_eq_true rfl) rfl dX6_set_7 (z_dtI ?_)
    refine z_ifne_b E 16 dX6_set_10 rfl (fun c_3 => ?_) (fun c_3 => ?_)
    · skip
      refine z_aload_n E dX6_set_16 0 rfl rfl ?_
      refine z_callV E (ci := 6) (N := 16) (C := RX6) (T := TX6) (n := 0) (st := []) (rfl : vl 16 0 = true) rfl rfl [] (kX6_changes l G P V  hB (by omega) (by omega)) gX6_set_X6_changes rfl ⟨rfl, rfl⟩ (by decide +kernel) ⟨Nat.le_of_ble_eq_true rfl, Nat.le_of_ble_eq_true rfl⟩ rfl rfl (Nat.le_of_ble_eq_true rfl) rfl dX6_set_17 (z_exV (fun P_4 V_4 h_4 => ?_))
      obtain ⟨hP_4, hB_4, h_4⟩ := h_4
      rw [hP_4]
      have zqc := h_4
      have zq17 : V_4 17 0 = V 17 0 := by rw [zqc, ch_o (by decide) (by decide)]
      refine z_aload_n E dX6_set_20 0 rfl rfl ?_
      refine z_get E (ci := 6) (N := 16) (C := RX6) (T := TX6) (rfl : vl 16 0 = true) rfl rfl iX6 0 (by decide) rfl f1 rfl dX6_set_21 ?_
      refine z_iconst E dX6_set_24 ?_
      refine z_iald E (rfl : vl 17 0 = true) 498 rfl (by omega) (by omega) (by omega) dX6_set_25 ?_
      have hr_5 := hB_4.s 5 (by omega)
      refine z_istore_n E dX6_set_26 3 rfl (L' := [some (.ref (ad G 16 0)), some (.int (iI what)), some (.int (iI value)), some (.int (iI (V_4 17 0 5)))]) (Nat.le_of_ble_eq_true rfl) rfl ?_
      refine z_aload_n E dX6_set_27 0 rfl rfl ?_
      refine z_get E (ci := 6) (N := 16) (C := RX6) (T := TX6) (rfl : vl 16 0 = true) rfl rfl iX6 0 (by decide) rfl f1 rfl dX6_set_28 ?_
      refine z_iconst E dX6_set_31 ?_
      refine z_iload_n E dX6_set_32 2 rfl rfl ?_
      refine z_iast E (rfl : vl 17 0 = true) 498 (fun _ => rfl) (by omega) (by omega) (by omega) dX6_set_33 ?_
      obtain ⟨V6, hV6⟩ : ∃ Z : Vt, Z = up V_4 17 0 (updI (V_4 17 0) 5 value) := ⟨_, rfl⟩
      rw [← hV6]
      have hB6 : BV V6 := hV6 ▸ BV_up hB_4 (by intro _; omega)
      refine z_iload_n E dX6_set_34 3 rfl rfl ?_
      exact z_iret E dX6_set_35 (⟨rfl, hB6, Or.inr ⟨by omega, by rw [zq17], by rw [hV6, zq17, zqc]⟩⟩)
    · skip
      refine z_ldc E (-1000001) f0 rfl dX6_set_13 ?_
      exact z_iret E dX6_set_15 (⟨rfl, hB, Or.inl ⟨by omega, rfl, rfl⟩⟩)

set_option maxHeartbeats 4000000 in
set_option maxRecDepth 100000 in
theorem kX6_canForget (l : Launch) (G : Gl) (P : Nat → Nat) (V : Vt) (x : Int) (hB : BV V) (r1 : inR x) : Met l yX6_canForget wsX6_canForget ({ frames := 0, cells := 0, slots := 0, locals := 0 }) (va_Pc [.ref (ad G 16 0), .int (iI x)] (Sg G P V)) (Qk G mkI (dt (b2i (0 < x ∧ ∀ d, 0 ≤ d → d < 4 → ¬ mh (V 17 0) d = x)) P V)) 0 0 (mem G) := by
  refine z_met (cc := cX6_canForget) (nL := 4) (ret := (some .boolean)) (own := RX6) (by decide +kernel) rfl rfl (Nat.le_of_ble_eq_true rfl) (zz_cat rfl) (L := [some (.ref (ad G 16 0)), some (.int (iI x)), none, none]) rfl ?_
  intro X E
  have iX6 : ∀ x ∈ wsX60, x ∈ wsX6_canForget := by decide +kernel
  have f0 : Cond.fieldLink RX6 7 "SharedStatesModel" "s" "[I" ∈ wsX6_canForget := by decide +kernel
  refine z_iload_n E dX6_canForget_0 1 rfl rfl ?_
  refine z_if_le E 8 dX6_canForget_1 rfl (by omega) (fun c_1 => ?_) (fun c_1 => ?_)
  · skip
    refine z_iconst E dX6_canForget_8 ?_
    refine z_istore_n E dX6_canForget_9 2 rfl (L' := [some (.ref (ad G 16 0)), some (.int (iI x)), some (.int (iI 0)), none]) (Nat.le_of_ble_eq_true rfl) rfl ?_
    refine z_iconst E dX6_canForget_10 ?_
    refine z_istore_n E dX6_canForget_11 3 rfl (L' := [some (.ref (ad G 16 0)), some (.int (iI x)), some (.int (iI 0)), some (.int (iI 0))]) (Nat.le_of_ble_eq_true rfl) rfl ?_
    have lp_12_2 : ∀ (fuel : Nat) (a : Int) (k : Int), (0 ≤ k) → (k ≤ 4) → (a = b2i (0 < x ∧ ∀ d, 0 ≤ d → d < k → ¬ mh (V 17 0) d = x)) → (4 - k : Int).toNat < fuel → Kz X G P V [some (.ref (ad G 16 0)), some (.int (iI x)), some (.int (iI a)), some (.int (iI k))] 12 [] := by
      intro fuel
      induction fuel with
      | zero => intro a k hk0 hk1 ha hf_12; exact absurd hf_12 (Nat.not_lt_zero _)
      | succ fuel ih_12 =>
        intro a k hk0 hk1 ha hf_12
        have hab := b2i_b (0 < x ∧ ∀ d, 0 ≤ d → d < k → ¬ mh (V 17 0) d = x)
        rw [← ha] at hab
        refine z_iload_n E dX6_canForget_12 3 rfl rfl ?_
        refine z_iconst E dX6_canForget_13 ?_
        refine z_icmp_ge E 46 dX6_canForget_14 rfl (by omega) (by omega) (fun c_3 => ?_) (fun c_3 => ?_)
        · skip
          refine z_iload_n E dX6_canForget_46 2 rfl rfl ?_
          exact z_zret E dX6_canForget_47 (by first | decide | omega) (⟨by rw [ha, show k = 4 by omega], rfl, rfl⟩)
        · skip
          refine z_iload_n E dX6_canForget_17 2 rfl rfl ?_
          refine z_if_eq E 38 dX6_canForget_18 rfl (by omega) (fun c_4 => ?_) (fun c_4 => ?_)
          · skip
            refine z_iconst E dX6_canForget_38 ?_
            refine z_istore_n E dX6_canForget_39 2 rfl (L' := [some (.ref (ad G 16 0)), some (.int (iI x)), some (.int (iI 0)), some (.int (iI k))]) (Nat.le_of_ble_eq_true rfl) rfl ?_
            refine z_iinc E k dX6_canForget_40 (L' := [some (.ref (ad G 16 0)), some (.int (iI x)), some (.int (iI 0)), some (.int (iI (k + 1)))]) (Nat.le_of_ble_eq_true rfl) rfl rfl ?_
            refine z_goto E 12 dX6_canForget_43 rfl ?_
            exact ih_12 0 (k + 1) (by omega) (by omega) (by first | exact fd_1 ha (by assumption) (by assumption) | exact fd_0a ha (by assumption) | exact fd_0 (by omega) (fun z => z (by assumption))) (by omega)
          · skip
            refine z_aload_n E dX6_canForget_21 0 rfl rfl ?_
            refine z_get E (ci := 6) (N := 16) (C := RX6) (T := TX6) (rfl : vl 16 0 = true) rfl rfl iX6 0 (by decide) rfl f0 rfl dX6_canForget_22 ?_
            refine z_bipush E dX6_canForget_25 rfl ?_
            refine z_iload_n E dX6_canForget_27 3 rfl rfl ?_
            refine z_iadd E dX6_canForget_28 ?_
            refine z_iald E (rfl : vl 17 0 = true) 498 rfl (by omega) (by omega) (by omega) dX6_canForget_29 ?_
            have hr_5 := hB.s (6 + k) (by omega)
            refine z_iload_n E dX6_canForget_30 1 rfl rfl ?_
            refine z_icmp_eq E 38 dX6_canForget_31 rfl (by omega) (by omega) (fun c_6 => ?_) (fun c_6 => ?_)
            · skip
              refine z_iconst E dX6_canForget_38 ?_
              refine z_istore_n E dX6_canForget_39 2 rfl (L' := [some (.ref (ad G 16 0)), some (.int (iI x)), some (.int (iI 0)), some (.int (iI k))]) (Nat.le_of_ble_eq_true rfl) rfl ?_
              refine z_iinc E k dX6_canForget_40 (L' := [some (.ref (ad G 16 0)), some (.int (iI x)), some (.int (iI 0)), some (.int (iI (k + 1)))]) (Nat.le_of_ble_eq_true rfl) rfl rfl ?_
              refine z_goto E 12 dX6_canForget_43 rfl ?_
              exact ih_12 0 (k + 1) (by omega) (by omega) (by first | exact fd_1 ha (by assumption) (by assumption) | exact fd_0a ha (by assumption) | exact fd_0 (by omega) (fun z => z (by assumption))) (by omega)
            · skip
              refine z_iconst E dX6_canForget_34 ?_
              refine z_goto E 39 dX6_canForget_35 rfl ?_
              refine z_istore_n E dX6_canForget_39 2 rfl (L' := [some (.ref (ad G 16 0)), some (.int (iI x)), some (.int (iI 1)), some (.int (iI k))]) (Nat.le_of_ble_eq_true rfl) rfl ?_
              refine z_iinc E k dX6_canForget_40 (L' := [some (.ref (ad G 16 0)), some (.int (iI x)), some (.int (iI 1)), some (.int (iI (k + 1)))]) (Nat.le_of_ble_eq_true rfl) rfl rfl ?_
              refine z_goto E 12 dX6_canForget_43 rfl ?_
              exact ih_12 1 (k + 1) (by omega) (by omega) (by first | exact fd_1 ha (by assumption) (by assumption) | exact fd_0a ha (by assumption) | exact fd_0 (by omega) (fun z => z (by assumption))) (by omega)
    exact lp_12_2 ((4 - 0 : Int).toNat + 1) 0 0 (by omega) (by omega) (by first | exact (b2i_t ⟨by omega, all_0⟩).symm | exact (b2i_f (fun z => absurd z.1 (by omega))).symm) (Nat.lt_succ_self _)
  · skip
    refine z_iconst E dX6_canForget_4 ?_
    refine z_goto E 9 dX6_canForget_5 rfl ?_
    refine z_istore_n E dX6_canForget_9 2 rfl (L' := [some (.ref (ad G 16 0)), some (.int (iI x)), some (.int (iI 1)), none]) (Nat.le_of_ble_eq_true rfl) rfl ?_
    refine z_iconst E dX6_canForget_10 ?_
    refine z_istore_n E dX6_canForget_11 3 rfl (L' := [some (.ref (ad G 16 0)), some (.int (iI x)), some (.int (iI 1)), some (.int (iI 0))]) (Nat.le_of_ble_eq_true rfl) rfl ?_
    have lp_12_7 : ∀ (fuel : Nat) (a : Int) (k : Int), (0 ≤ k) → (k ≤ 4) → (a = b2i (0 < x ∧ ∀ d, 0 ≤ d → d < k → ¬ mh (V 17 0) d = x)) → (4 - k : Int).toNat < fuel → Kz X G P V [some (.ref (ad G 16 0)), some (.int (iI x)), some (.int (iI a)), some (.int (iI k))] 12 [] := by
      intro fuel
      induction fuel with
      | zero => intro a k hk0 hk1 ha hf_12; exact absurd hf_12 (Nat.not_lt_zero _)
      | succ fuel ih_12 =>
        intro a k hk0 hk1 ha hf_12
        have hab := b2i_b (0 < x ∧ ∀ d, 0 ≤ d → d < k → ¬ mh (V 17 0) d = x)
        rw [← ha] at hab
        refine z_iload_n E dX6_canForget_12 3 rfl rfl ?_
        refine z_iconst E dX6_canForget_13 ?_
        refine z_icmp_ge E 46 dX6_canForget_14 rfl (by omega) (by omega) (fun c_8 => ?_) (fun c_8 => ?_)
        · skip
          refine z_iload_n E dX6_canForget_46 2 rfl rfl ?_
          exact z_zret E dX6_canForget_47 (by first | decide | omega) (⟨by rw [ha, show k = 4 by omega], rfl, rfl⟩)
        · skip
          refine z_iload_n E dX6_canForget_17 2 rfl rfl ?_
          refine z_if_eq E 38 dX6_canForget_18 rfl (by omega) (fun c_9 => ?_) (fun c_9 => ?_)
          · skip
            refine z_iconst E dX6_canForget_38 ?_
            refine z_istore_n E dX6_canForget_39 2 rfl (L' := [some (.ref (ad G 16 0)), some (.int (iI x)), some (.int (iI 0)), some (.int (iI k))]) (Nat.le_of_ble_eq_true rfl) rfl ?_
            refine z_iinc E k dX6_canForget_40 (L' := [some (.ref (ad G 16 0)), some (.int (iI x)), some (.int (iI 0)), some (.int (iI (k + 1)))]) (Nat.le_of_ble_eq_true rfl) rfl rfl ?_
            refine z_goto E 12 dX6_canForget_43 rfl ?_
            exact ih_12 0 (k + 1) (by omega) (by omega) (by first | exact fd_1 ha (by assumption) (by assumption) | exact fd_0a ha (by assumption) | exact fd_0 (by omega) (fun z => z (by assumption))) (by omega)
          · skip
            refine z_aload_n E dX6_canForget_21 0 rfl rfl ?_
            refine z_get E (ci := 6) (N := 16) (C := RX6) (T := TX6) (rfl : vl 16 0 = true) rfl rfl iX6 0 (by decide) rfl f0 rfl dX6_canForget_22 ?_
            refine z_bipush E dX6_canForget_25 rfl ?_
            refine z_iload_n E dX6_canForget_27 3 rfl rfl ?_
            refine z_iadd E dX6_canForget_28 ?_
            refine z_iald E (rfl : vl 17 0 = true) 498 rfl (by omega) (by omega) (by omega) dX6_canForget_29 ?_
            have hr_10 := hB.s (6 + k) (by omega)
            refine z_iload_n E dX6_canForget_30 1 rfl rfl ?_
            refine z_icmp_eq E 38 dX6_canForget_31 rfl (by omega) (by omega) (fun c_11 => ?_) (fun c_11 => ?_)
            · skip
              refine z_iconst E dX6_canForget_38 ?_
              refine z_istore_n E dX6_canForget_39 2 rfl (L' := [some (.ref (ad G 16 0)), some (.int (iI x)), some (.int (iI 0)), some (.int (iI k))]) (Nat.le_of_ble_eq_true rfl) rfl ?_
              refine z_iinc E k dX6_canForget_40 (L' := [some (.ref (ad G 16 0)), some (.int (iI x)), some (.int (iI 0)), some (.int (iI (k + 1)))]) (Nat.le_of_ble_eq_true rfl) rfl rfl ?_
              refine z_goto E 12 dX6_canForget_43 rfl ?_
              exact ih_12 0 (k + 1) (by omega) (by omega) (by first | exact fd_1 ha (by assumption) (by assumption) | exact fd_0a ha (by assumption) | exact fd_0 (by omega) (fun z => z (by assumption))) (by omega)
            · skip
              refine z_iconst E dX6_canForget_34 ?_
              refine z_goto E 39 dX6_canForget_35 rfl ?_
              refine z_istore_n E dX6_canForget_39 2 rfl (L' := [some (.ref (ad G 16 0)), some (.int (iI x)), some (.int (iI 1)), some (.int (iI k))]) (Nat.le_of_ble_eq_true rfl) rfl ?_
              refine z_iinc E k dX6_canForget_40 (L' := [some (.ref (ad G 16 0)), some (.int (iI x)), some (.int (iI 1)), some (.int (iI (k + 1)))]) (Nat.le_of_ble_eq_true rfl) rfl rfl ?_
              refine z_goto E 12 dX6_canForget_43 rfl ?_
              exact ih_12 1 (k + 1) (by omega) (by omega) (by first | exact fd_1 ha (by assumption) (by assumption) | exact fd_0a ha (by assumption) | exact fd_0 (by omega) (fun z => z (by assumption))) (by omega)
    exact lp_12_7 ((4 - 0 : Int).toNat + 1) 1 0 (by omega) (by omega) (by first | exact (b2i_t ⟨by omega, all_0⟩).symm | exact (b2i_f (fun z => absurd z.1 (by omega))).symm) (Nat.lt_succ_self _)

set_option maxHeartbeats 4000000 in
set_option maxRecDepth 100000 in
theorem kX6_lowestLike (l : Launch) (G : Gl) (P : Nat → Nat) (V : Vt) (b : Int) (hB : BV V) (a1 : 0 ≤ b) (a2 : b < 40) (a3 : mf (V 17 0) b = 1) : Met l yX6_lowestLike wsX6_lowestLike ({ frames := 2, cells := 0, slots := 0, locals := 46 }) (va_Pc [.ref (ad G 16 0), .int (iI b)] (Sg G P V)) (Qk G mkI (dt (llM (V 17 0) b) P V)) 0 0 (mem G) := by
  refine z_met (cc := cX6_lowestLike) (nL := 3) (ret := (some .int)) (own := RX6) (by decide +kernel) rfl rfl (Nat.le_of_ble_eq_true rfl) (zz_cat rfl) (L := [some (.ref (ad G 16 0)), some (.int (iI b)), none]) rfl ?_
  intro X E
  refine z_iconst E dX6_lowestLike_0 ?_
  refine z_istore_n E dX6_lowestLike_1 2 rfl (L' := [some (.ref (ad G 16 0)), some (.int (iI b)), some (.int (iI 0))]) (Nat.le_of_ble_eq_true rfl) rfl ?_
  have lp_2_1 : ∀ (fuel : Nat) (k : Int), (0 ≤ k) → (k ≤ b) → (∀ o, 0 ≤ o → o < k → ¬ (mf (V 17 0) o = 1 ∧ ∀ c, 0 ≤ c → c < 8 → mb (V 17 0) o c = mb (V 17 0) b c)) → (b - k + 1 : Int).toNat < fuel → Kz X G P V [some (.ref (ad G 16 0)), some (.int (iI b)), some (.int (iI k))] 2 [] := by
    intro fuel
    induction fuel with
    | zero => intro k hk0 hk1 hla hf_2; exact absurd hf_2 (Nat.not_lt_zero _)
    | succ fuel ih_2 =>
      intro k hk0 hk1 hla hf_2
      refine z_aload_n E dX6_lowestLike_2 0 rfl rfl ?_
      refine z_iload_n E dX6_lowestLike_3 2 rfl rfl ?_
      refine z_callV E (ci := 6) (N := 16) (C := RX6) (T := TX6) (n := 1) (st := []) (rfl : vl 16 0 = true) rfl rfl [.int (iI k)] (kX6_isBlock l G P V k hB (by omega)) gX6_lowestLike_X6_isBlock rfl ⟨rfl, rfl⟩ (by decide +kernel) ⟨Nat.le_of_ble_eq_true rfl, Nat.le_of_ble_eq_true rfl⟩ rfl rfl (Nat.le_of_ble_eq_true rfl) rfl dX6_lowestLike_4 (z_dtI ?_)
      refine z_ifeq_b E 19 dX6_lowestLike_7 rfl (fun c_3 => ?_) (fun c_3 => ?_)
      · skip
        refine z_iinc E k dX6_lowestLike_19 (L' := [some (.ref (ad G 16 0)), some (.int (iI b)), some (.int (iI (k + 1)))]) (Nat.le_of_ble_eq_true rfl) rfl rfl ?_
        refine z_goto E 2 dX6_lowestLike_22 rfl ?_
        have zqn : ¬ (mf (V 17 0) k = 1 ∧ ∀ c, 0 ≤ c → c < 8 → mb (V 17 0) k c = mb (V 17 0) b c) := by first | exact fun z => absurd z.2 (by assumption) | exact fun z => absurd z.1 (by omega)
        have zqk : k ≠ b := fun z => zqn (by rw [z]; exact ⟨a3, fun _ _ _ => rfl⟩)
        exact ih_2 (k + 1) (by omega) (by omega) (all_s hla zqn) (by omega)
      · skip
        refine z_aload_n E dX6_lowestLike_10 0 rfl rfl ?_
        refine z_iload_n E dX6_lowestLike_11 2 rfl rfl ?_
        refine z_iload_n E dX6_lowestLike_12 1 rfl rfl ?_
        refine z_callV E (ci := 6) (N := 16) (C := RX6) (T := TX6) (n := 2) (st := []) (rfl : vl 16 0 = true) rfl rfl [.int (iI k), .int (iI b)] (kX6_areLike l G P V k b hB (by omega) (by omega) (by omega) (by omega)) gX6_lowestLike_X6_areLike rfl ⟨rfl, rfl⟩ (by decide +kernel) ⟨Nat.le_of_ble_eq_true rfl, Nat.le_of_ble_eq_true rfl⟩ rfl rfl (Nat.le_of_ble_eq_true rfl) rfl dX6_lowestLike_13 (z_dtI ?_)
        refine z_ifne_b E 25 dX6_lowestLike_16 rfl (fun c_5 => ?_) (fun c_5 => ?_)
        · skip
          refine z_iload_n E dX6_lowestLike_25 2 rfl rfl ?_
          exact z_iret E dX6_lowestLike_26 (⟨(fnd_y hk0 (by omega) ⟨by omega, by assumption⟩ hla).symm, rfl, rfl⟩)
        · skip
          refine z_iinc E k dX6_lowestLike_19 (L' := [some (.ref (ad G 16 0)), some (.int (iI b)), some (.int (iI (k + 1)))]) (Nat.le_of_ble_eq_true rfl) rfl rfl ?_
          refine z_goto E 2 dX6_lowestLike_22 rfl ?_
          have zqn : ¬ (mf (V 17 0) k = 1 ∧ ∀ c, 0 ≤ c → c < 8 → mb (V 17 0) k c = mb (V 17 0) b c) := by first | exact fun z => absurd z.2 (by assumption) | exact fun z => absurd z.1 (by omega)
          have zqk : k ≠ b := fun z => zqn (by rw [z]; exact ⟨a3, fun _ _ _ => rfl⟩)
          exact ih_2 (k + 1) (by omega) (by omega) (all_s hla zqn) (by omega)
  exact lp_2_1 ((b - 0 + 1 : Int).toNat + 1) 0 (by omega) (by omega) all_0 (Nat.lt_succ_self _)

set_option maxHeartbeats 4000000 in
set_option maxRecDepth 100000 in
theorem kX6_shareable (l : Launch) (G : Gl) (P : Nat → Nat) (V : Vt) (hB : BV V) : Met l yX6_shareable wsX6_shareable ({ frames := 3, cells := 0, slots := 0, locals := 68 }) (va_Pc [.ref (ad G 16 0)] (Sg G P V)) (Qk G mkI (dt (sm 40 (fun b => b2i ((0 ≤ b ∧ b ≤ 39 ∧ mf (V 17 0) b = 1) ∧ llM (V 17 0) b < b))) P V)) 0 0 (mem G) := by
  refine z_met (cc := cX6_shareable) (nL := 3) (ret := (some .int)) (own := RX6) (by decide +kernel) rfl rfl (Nat.le_of_ble_eq_true rfl) (zz_cat rfl) (L := [some (.ref (ad G 16 0)), none, none]) rfl ?_
  intro X E
  refine z_iconst E dX6_shareable_0 ?_
  refine z_istore_n E dX6_shareable_1 1 rfl (L' := [some (.ref (ad G 16 0)), some (.int (iI 0)), none]) (Nat.le_of_ble_eq_true rfl) rfl ?_
  refine z_iconst E dX6_shareable_2 ?_
  refine z_istore_n E dX6_shareable_3 2 rfl (L' := [some (.ref (ad G 16 0)), some (.int (iI 0)), some (.int (iI 0))]) (Nat.le_of_ble_eq_true rfl) rfl ?_
  have lp_4_1 : ∀ (fuel : Nat) (m : Int) (k : Int), (0 ≤ k) → (k ≤ 40) → (m = sm k (fun b => b2i ((0 ≤ b ∧ b ≤ 39 ∧ mf (V 17 0) b = 1) ∧ llM (V 17 0) b < b))) → (40 - k : Int).toNat < fuel → Kz X G P V [some (.ref (ad G 16 0)), some (.int (iI m)), some (.int (iI k))] 4 [] := by
    intro fuel
    induction fuel with
    | zero => intro m k hk0 hk1 hs hf_4; exact absurd hf_4 (Nat.not_lt_zero _)
    | succ fuel ih_4 =>
      intro m k hk0 hk1 hs hf_4
      refine z_iload_n E dX6_shareable_4 2 rfl rfl ?_
      refine z_bipush E dX6_shareable_5 rfl ?_
      refine z_icmp_ge E 41 dX6_shareable_7 rfl (by omega) (by omega) (fun c_2 => ?_) (fun c_2 => ?_)
      · skip
        refine z_iload_n E dX6_shareable_41 1 rfl rfl ?_
        exact z_iret E dX6_shareable_42 (⟨by rw [hs, show k = 40 by omega], rfl, rfl⟩)
      · skip
        refine z_iload_n E dX6_shareable_10 1 rfl rfl ?_
        refine z_aload_n E dX6_shareable_11 0 rfl rfl ?_
        refine z_iload_n E dX6_shareable_12 2 rfl rfl ?_
        refine z_callV E (ci := 6) (N := 16) (C := RX6) (T := TX6) (n := 1) (st := [.int (iI m)]) (rfl : vl 16 0 = true) rfl rfl [.int (iI k)] (kX6_isBlock l G P V k hB (by omega)) gX6_shareable_X6_isBlock rfl ⟨rfl, rfl⟩ (by decide +kernel) ⟨Nat.le_of_ble_eq_true rfl, Nat.le_of_ble_eq_true rfl⟩ rfl rfl (Nat.le_of_ble_eq_true rfl) rfl dX6_shareable_13 (z_dtI ?_)
        refine z_ifeq_b E 32 dX6_shareable_16 rfl (fun c_4 => ?_) (fun c_4 => ?_)
        · skip
          refine z_iconst E dX6_shareable_32 ?_
          refine z_iadd E dX6_shareable_33 ?_
          refine z_istore_n E dX6_shareable_34 1 rfl (L' := [some (.ref (ad G 16 0)), some (.int (iI (m + 0))), some (.int (iI k))]) (Nat.le_of_ble_eq_true rfl) rfl ?_
          refine z_iinc E k dX6_shareable_35 (L' := [some (.ref (ad G 16 0)), some (.int (iI (m + 0))), some (.int (iI (k + 1)))]) (Nat.le_of_ble_eq_true rfl) rfl rfl ?_
          refine z_goto E 4 dX6_shareable_38 rfl ?_
          exact ih_4 (m + 0) (k + 1) (by omega) (by omega) (by first | exact smb_t hs (by omega) ⟨by assumption, by assumption⟩ | exact smb_f hs (by omega) (fun z => absurd z.1 (by assumption)) | exact smb_f hs (by omega) (fun z => absurd z.2 (by omega))) (by omega)
        · skip
          refine z_aload_n E dX6_shareable_19 0 rfl rfl ?_
          refine z_iload_n E dX6_shareable_20 2 rfl rfl ?_
          refine z_callV E (ci := 6) (N := 16) (C := RX6) (T := TX6) (n := 1) (st := [.int (iI m)]) (rfl : vl 16 0 = true) rfl rfl [.int (iI k)] (kX6_lowestLike l G P V k hB (by omega) (by omega) (by omega)) gX6_shareable_X6_lowestLike rfl ⟨rfl, rfl⟩ (by decide +kernel) ⟨Nat.le_of_ble_eq_true rfl, Nat.le_of_ble_eq_true rfl⟩ rfl rfl (Nat.le_of_ble_eq_true rfl) rfl dX6_shareable_21 (z_dtI ?_)
          have zqll := llM_c (V 17 0) k (by omega) (by omega) (by omega)
          refine z_iload_n E dX6_shareable_24 2 rfl rfl ?_
          refine z_icmp_ge E 32 dX6_shareable_25 rfl (by omega) (by omega) (fun c_6 => ?_) (fun c_6 => ?_)
          · skip
            refine z_iconst E dX6_shareable_32 ?_
            refine z_iadd E dX6_shareable_33 ?_
            refine z_istore_n E dX6_shareable_34 1 rfl (L' := [some (.ref (ad G 16 0)), some (.int (iI (m + 0))), some (.int (iI k))]) (Nat.le_of_ble_eq_true rfl) rfl ?_
            refine z_iinc E k dX6_shareable_35 (L' := [some (.ref (ad G 16 0)), some (.int (iI (m + 0))), some (.int (iI (k + 1)))]) (Nat.le_of_ble_eq_true rfl) rfl rfl ?_
            refine z_goto E 4 dX6_shareable_38 rfl ?_
            exact ih_4 (m + 0) (k + 1) (by omega) (by omega) (by first | exact smb_t hs (by omega) ⟨by assumption, by assumption⟩ | exact smb_f hs (by omega) (fun z => absurd z.1 (by assumption)) | exact smb_f hs (by omega) (fun z => absurd z.2 (by omega))) (by omega)
          · skip
            refine z_iconst E dX6_shareable_28 ?_
            refine z_goto E 33 dX6_shareable_29 rfl ?_
            refine z_iadd E dX6_shareable_33 ?_
            refine z_istore_n E dX6_shareable_34 1 rfl (L' := [some (.ref (ad G 16 0)), some (.int (iI (m + 1))), some (.int (iI k))]) (Nat.le_of_ble_eq_true rfl) rfl ?_
            refine z_iinc E k dX6_shareable_35 (L' := [some (.ref (ad G 16 0)), some (.int (iI (m + 1))), some (.int (iI (k + 1)))]) (Nat.le_of_ble_eq_true rfl) rfl rfl ?_
            refine z_goto E 4 dX6_shareable_38 rfl ?_
            exact ih_4 (m + 1) (k + 1) (by omega) (by omega) (by first | exact smb_t hs (by omega) ⟨by assumption, by assumption⟩ | exact smb_f hs (by omega) (fun z => absurd z.1 (by assumption)) | exact smb_f hs (by omega) (fun z => absurd z.2 (by omega))) (by omega)
  exact lp_4_1 ((40 - 0 : Int).toNat + 1) 0 0 (by omega) (by omega) (sm_0 (by omega)).symm (Nat.lt_succ_self _)

set_option maxHeartbeats 4000000 in
set_option maxRecDepth 100000 in
theorem kX6_unlike (l : Launch) (G : Gl) (P : Nat → Nat) (V : Vt) (one : Int) (other : Int) (what : Int) (hB : BV V) (hm0 : 0 ≤ V 17 0 0) (hm1 : V 17 0 0 ≤ 16) (hmL : ∀ k p, 0 ≤ k → k < 16 → 0 ≤ p → p < 6 → 0 ≤ mo (V 17 0) k (2 + p) ∧ mo (V 17 0) k (2 + p) < 40) (hI : MI (V 17 0)) (r1 : inR one) (r2 : inR other) (r3 : inR what) : Met l yX6_unlike wsX6_unlike ({ frames := 4, cells := 0, slots := 0, locals := 90 }) (va_Pc [.ref (ad G 16 0), .int (iI one), .int (iI other), .int (iI what)] (Sg G P V)) (Qk G mkI (dt (if mS (V 17 0) one < 0 ∨ mS (V 17 0) other < 0 ∨ what < 0 ∨ 3 < what then -1000001 else if what = 0 then sm 48 (fun c => b2i (¬ mc (V 17 0) (mS (V 17 0) one) c = mc (V 17 0) (mS (V 17 0) other) c)) else if what = 1 then fO (fnd 48 (fun c => ¬ mc (V 17 0) (mS (V 17 0) one) c = mc (V 17 0) (mS (V 17 0) other) c)) else if what = 2 then sm 6 (fun p => b2i (¬ mo (V 17 0) (mS (V 17 0) one) (2 + p) = mo (V 17 0) (mS (V 17 0) other) (2 + p))) else cmM (V 17 0) other 16 one) P V)) 0 0 (mem G) := by
  refine z_met (cc := cX6_unlike) (nL := 4) (ret := (some .int)) (own := RX6) (by decide +kernel) rfl rfl (Nat.le_of_ble_eq_true rfl) (zz_cat rfl) (L := [some (.ref (ad G 16 0)), some (.int (iI one)), some (.int (iI other)), some (.int (iI what))]) rfl ?_
  intro X E
  have f0 : Cond.constant RX6 111 (-1000001) ∈ wsX6_unlike := by decide +kernel
  refine z_aload_n E dX6_unlike_0 0 rfl rfl ?_
  refine z_iload_n E dX6_unlike_1 1 rfl rfl ?_
  refine z_callV E (ci := 6) (N := 16) (C := RX6) (T := TX6) (n := 1) (st := []) (rfl : vl 16 0 = true) rfl rfl [.int (iI one)] (kX6_isState l G P V one hB (by omega) (by omega) (by omega)) gX6_unlike_X6_isState rfl ⟨rfl, rfl⟩ (by decide +kernel) ⟨Nat.le_of_ble_eq_true rfl, Nat.le_of_ble_eq_true rfl⟩ rfl rfl (Nat.le_of_ble_eq_true rfl) rfl dX6_unlike_2 (z_dtI ?_)
  have h_1a := mS_c (V 17 0) one
  refine z_ifeq_b E 25 dX6_unlike_5 rfl (fun c_2 => ?_) (fun c_2 => ?_)
  · skip
    refine z_ldc E (-1000001) f0 rfl dX6_unlike_25 ?_
    exact z_iret E dX6_unlike_27 (⟨by rw [if_pos (by omega)], rfl, rfl⟩)
  · skip
    refine z_aload_n E dX6_unlike_8 0 rfl rfl ?_
    refine z_iload_n E dX6_unlike_9 2 rfl rfl ?_
    refine z_callV E (ci := 6) (N := 16) (C := RX6) (T := TX6) (n := 1) (st := []) (rfl : vl 16 0 = true) rfl rfl [.int (iI other)] (kX6_isState l G P V other hB (by omega) (by omega) (by omega)) gX6_unlike_X6_isState rfl ⟨rfl, rfl⟩ (by decide +kernel) ⟨Nat.le_of_ble_eq_true rfl, Nat.le_of_ble_eq_true rfl⟩ rfl rfl (Nat.le_of_ble_eq_true rfl) rfl dX6_unlike_10 (z_dtI ?_)
    have h_3a := mS_c (V 17 0) other
    refine z_ifeq_b E 25 dX6_unlike_13 rfl (fun c_4 => ?_) (fun c_4 => ?_)
    · skip
      refine z_ldc E (-1000001) f0 rfl dX6_unlike_25 ?_
      exact z_iret E dX6_unlike_27 (⟨by rw [if_pos (by omega)], rfl, rfl⟩)
    · skip
      refine z_iload_n E dX6_unlike_16 3 rfl rfl ?_
      refine z_iconst E dX6_unlike_17 ?_
      refine z_iconst E dX6_unlike_18 ?_
      refine z_callS E (n := 3) (st := []) [.int (iI what), .int (iI 0), .int (iI 3)] (kX6_in l G P V what 0 3 (by omega) (by omega) (by omega)) gX6_unlike_X6_in rfl ⟨rfl, rfl⟩ (by decide +kernel) ⟨Nat.le_of_ble_eq_true rfl, Nat.le_of_ble_eq_true rfl⟩ rfl rfl (Nat.le_of_ble_eq_true rfl) rfl dX6_unlike_19 (z_dtI ?_)
      refine z_ifne_b E 28 dX6_unlike_22 rfl (fun c_6 => ?_) (fun c_6 => ?_)
      · skip
        refine z_iload_n E dX6_unlike_28 3 rfl rfl ?_
        by_cases q_7_0 : what = 0
        · skip
          refine z_tsI E 0 56 q_7_0 (by omega) dX6_unlike_29 (by decide) (by decide) rfl rfl ?_
          refine z_aload_n E dX6_unlike_56 0 rfl rfl ?_
          refine z_aload_n E dX6_unlike_57 0 rfl rfl ?_
          refine z_iload_n E dX6_unlike_58 1 rfl rfl ?_
          refine z_callV E (ci := 6) (N := 16) (C := RX6) (T := TX6) (n := 1) (st := [.ref (ad G 16 0)]) (rfl : vl 16 0 = true) rfl rfl [.int (iI one)] (kX6_slot l G P V one hB (by omega) (by omega) (by omega)) gX6_unlike_X6_slot rfl ⟨rfl, rfl⟩ (by decide +kernel) ⟨Nat.le_of_ble_eq_true rfl, Nat.le_of_ble_eq_true rfl⟩ rfl rfl (Nat.le_of_ble_eq_true rfl) rfl dX6_unlike_59 (z_dtI ?_)
          have h_8a := mS_c (V 17 0) one
          rw [show fO (mS (V 17 0) one) = mS (V 17 0) one by omega]
          refine z_aload_n E dX6_unlike_62 0 rfl rfl ?_
          refine z_iload_n E dX6_unlike_63 2 rfl rfl ?_
          refine z_callV E (ci := 6) (N := 16) (C := RX6) (T := TX6) (n := 1) (st := [.int (iI (mS (V 17 0) one)), .ref (ad G 16 0)]) (rfl : vl 16 0 = true) rfl rfl [.int (iI other)] (kX6_slot l G P V other hB (by omega) (by omega) (by omega)) gX6_unlike_X6_slot rfl ⟨rfl, rfl⟩ (by decide +kernel) ⟨Nat.le_of_ble_eq_true rfl, Nat.le_of_ble_eq_true rfl⟩ rfl rfl (Nat.le_of_ble_eq_true rfl) rfl dX6_unlike_64 (z_dtI ?_)
          have h_9a := mS_c (V 17 0) other
          rw [show fO (mS (V 17 0) other) = mS (V 17 0) other by omega]
          refine z_iload_n E dX6_unlike_67 3 rfl rfl ?_
          refine z_iconst E dX6_unlike_68 ?_
          refine z_icmp_ne E 76 dX6_unlike_69 rfl (by omega) (by omega) (fun c_10 => ?_) (fun c_10 => ?_)
          · skip
            refine z_iconst E dX6_unlike_76 ?_
            refine z_callV E (ci := 6) (N := 16) (C := RX6) (T := TX6) (n := 3) (st := []) (rfl : vl 16 0 = true) rfl rfl [.int (iI (mS (V 17 0) one)), .int (iI (mS (V 17 0) other)), .int (iI 0)] (kX6_unlikeCells l G P V (mS (V 17 0) one) (mS (V 17 0) other) 0 hB (by omega) (by omega) hmL (by omega) (by omega) (by omega) (by omega) (by omega)) gX6_unlike_X6_unlikeCells rfl ⟨rfl, rfl⟩ (by decide +kernel) ⟨Nat.le_of_ble_eq_true rfl, Nat.le_of_ble_eq_true rfl⟩ rfl rfl (Nat.le_of_ble_eq_true rfl) rfl dX6_unlike_77 (z_dtI ?_)
            exact z_iret E dX6_unlike_80 (⟨by first | (exfalso; omega) | (rw [if_pos (show (0 : Int) = 0 from rfl), if_neg (by omega), if_pos (by omega)]; done) | (rw [if_neg (show ¬ ((1 : Int) = 0) by decide), if_neg (by omega), if_neg (by omega), if_pos (by omega)]; done), rfl, rfl⟩)
          · skip
            refine z_iconst E dX6_unlike_72 ?_
            refine z_goto E 77 dX6_unlike_73 rfl ?_
            refine z_callV E (ci := 6) (N := 16) (C := RX6) (T := TX6) (n := 3) (st := []) (rfl : vl 16 0 = true) rfl rfl [.int (iI (mS (V 17 0) one)), .int (iI (mS (V 17 0) other)), .int (iI 1)] (kX6_unlikeCells l G P V (mS (V 17 0) one) (mS (V 17 0) other) 1 hB (by omega) (by omega) hmL (by omega) (by omega) (by omega) (by omega) (by omega)) gX6_unlike_X6_unlikeCells rfl ⟨rfl, rfl⟩ (by decide +kernel) ⟨Nat.le_of_ble_eq_true rfl, Nat.le_of_ble_eq_true rfl⟩ rfl rfl (Nat.le_of_ble_eq_true rfl) rfl dX6_unlike_77 (z_dtI ?_)
            exact z_iret E dX6_unlike_80 (⟨by first | (exfalso; omega) | (rw [if_pos (show (0 : Int) = 0 from rfl), if_neg (by omega), if_pos (by omega)]; done) | (rw [if_neg (show ¬ ((1 : Int) = 0) by decide), if_neg (by omega), if_neg (by omega), if_pos (by omega)]; done), rfl, rfl⟩)
        by_cases q_7_1 : what = 1
        · skip
          refine z_tsI E 1 56 q_7_1 (by omega) dX6_unlike_29 (by decide) (by decide) rfl rfl ?_
          refine z_aload_n E dX6_unlike_56 0 rfl rfl ?_
          refine z_aload_n E dX6_unlike_57 0 rfl rfl ?_
          refine z_iload_n E dX6_unlike_58 1 rfl rfl ?_
          refine z_callV E (ci := 6) (N := 16) (C := RX6) (T := TX6) (n := 1) (st := [.ref (ad G 16 0)]) (rfl : vl 16 0 = true) rfl rfl [.int (iI one)] (kX6_slot l G P V one hB (by omega) (by omega) (by omega)) gX6_unlike_X6_slot rfl ⟨rfl, rfl⟩ (by decide +kernel) ⟨Nat.le_of_ble_eq_true rfl, Nat.le_of_ble_eq_true rfl⟩ rfl rfl (Nat.le_of_ble_eq_true rfl) rfl dX6_unlike_59 (z_dtI ?_)
          have h_13a := mS_c (V 17 0) one
          rw [show fO (mS (V 17 0) one) = mS (V 17 0) one by omega]
          refine z_aload_n E dX6_unlike_62 0 rfl rfl ?_
          refine z_iload_n E dX6_unlike_63 2 rfl rfl ?_
          refine z_callV E (ci := 6) (N := 16) (C := RX6) (T := TX6) (n := 1) (st := [.int (iI (mS (V 17 0) one)), .ref (ad G 16 0)]) (rfl : vl 16 0 = true) rfl rfl [.int (iI other)] (kX6_slot l G P V other hB (by omega) (by omega) (by omega)) gX6_unlike_X6_slot rfl ⟨rfl, rfl⟩ (by decide +kernel) ⟨Nat.le_of_ble_eq_true rfl, Nat.le_of_ble_eq_true rfl⟩ rfl rfl (Nat.le_of_ble_eq_true rfl) rfl dX6_unlike_64 (z_dtI ?_)
          have h_14a := mS_c (V 17 0) other
          rw [show fO (mS (V 17 0) other) = mS (V 17 0) other by omega]
          refine z_iload_n E dX6_unlike_67 3 rfl rfl ?_
          refine z_iconst E dX6_unlike_68 ?_
          refine z_icmp_ne E 76 dX6_unlike_69 rfl (by omega) (by omega) (fun c_15 => ?_) (fun c_15 => ?_)
          · skip
            refine z_iconst E dX6_unlike_76 ?_
            refine z_callV E (ci := 6) (N := 16) (C := RX6) (T := TX6) (n := 3) (st := []) (rfl : vl 16 0 = true) rfl rfl [.int (iI (mS (V 17 0) one)), .int (iI (mS (V 17 0) other)), .int (iI 0)] (kX6_unlikeCells l G P V (mS (V 17 0) one) (mS (V 17 0) other) 0 hB (by omega) (by omega) hmL (by omega) (by omega) (by omega) (by omega) (by omega)) gX6_unlike_X6_unlikeCells rfl ⟨rfl, rfl⟩ (by decide +kernel) ⟨Nat.le_of_ble_eq_true rfl, Nat.le_of_ble_eq_true rfl⟩ rfl rfl (Nat.le_of_ble_eq_true rfl) rfl dX6_unlike_77 (z_dtI ?_)
            exact z_iret E dX6_unlike_80 (⟨by first | (exfalso; omega) | (rw [if_pos (show (0 : Int) = 0 from rfl), if_neg (by omega), if_pos (by omega)]; done) | (rw [if_neg (show ¬ ((1 : Int) = 0) by decide), if_neg (by omega), if_neg (by omega), if_pos (by omega)]; done), rfl, rfl⟩)
          · skip
            refine z_iconst E dX6_unlike_72 ?_
            refine z_goto E 77 dX6_unlike_73 rfl ?_
            refine z_callV E (ci := 6) (N := 16) (C := RX6) (T := TX6) (n := 3) (st := []) (rfl : vl 16 0 = true) rfl rfl [.int (iI (mS (V 17 0) one)), .int (iI (mS (V 17 0) other)), .int (iI 1)] (kX6_unlikeCells l G P V (mS (V 17 0) one) (mS (V 17 0) other) 1 hB (by omega) (by omega) hmL (by omega) (by omega) (by omega) (by omega) (by omega)) gX6_unlike_X6_unlikeCells rfl ⟨rfl, rfl⟩ (by decide +kernel) ⟨Nat.le_of_ble_eq_true rfl, Nat.le_of_ble_eq_true rfl⟩ rfl rfl (Nat.le_of_ble_eq_true rfl) rfl dX6_unlike_77 (z_dtI ?_)
            exact z_iret E dX6_unlike_80 (⟨by first | (exfalso; omega) | (rw [if_pos (show (0 : Int) = 0 from rfl), if_neg (by omega), if_pos (by omega)]; done) | (rw [if_neg (show ¬ ((1 : Int) = 0) by decide), if_neg (by omega), if_neg (by omega), if_pos (by omega)]; done), rfl, rfl⟩)
        by_cases q_7_2 : what = 2
        · skip
          refine z_tsI E 2 81 q_7_2 (by omega) dX6_unlike_29 (by decide) (by decide) rfl rfl ?_
          refine z_aload_n E dX6_unlike_81 0 rfl rfl ?_
          refine z_aload_n E dX6_unlike_82 0 rfl rfl ?_
          refine z_iload_n E dX6_unlike_83 1 rfl rfl ?_
          refine z_callV E (ci := 6) (N := 16) (C := RX6) (T := TX6) (n := 1) (st := [.ref (ad G 16 0)]) (rfl : vl 16 0 = true) rfl rfl [.int (iI one)] (kX6_slot l G P V one hB (by omega) (by omega) (by omega)) gX6_unlike_X6_slot rfl ⟨rfl, rfl⟩ (by decide +kernel) ⟨Nat.le_of_ble_eq_true rfl, Nat.le_of_ble_eq_true rfl⟩ rfl rfl (Nat.le_of_ble_eq_true rfl) rfl dX6_unlike_84 (z_dtI ?_)
          have h_18a := mS_c (V 17 0) one
          rw [show fO (mS (V 17 0) one) = mS (V 17 0) one by omega]
          refine z_aload_n E dX6_unlike_87 0 rfl rfl ?_
          refine z_iload_n E dX6_unlike_88 2 rfl rfl ?_
          refine z_callV E (ci := 6) (N := 16) (C := RX6) (T := TX6) (n := 1) (st := [.int (iI (mS (V 17 0) one)), .ref (ad G 16 0)]) (rfl : vl 16 0 = true) rfl rfl [.int (iI other)] (kX6_slot l G P V other hB (by omega) (by omega) (by omega)) gX6_unlike_X6_slot rfl ⟨rfl, rfl⟩ (by decide +kernel) ⟨Nat.le_of_ble_eq_true rfl, Nat.le_of_ble_eq_true rfl⟩ rfl rfl (Nat.le_of_ble_eq_true rfl) rfl dX6_unlike_89 (z_dtI ?_)
          have h_19a := mS_c (V 17 0) other
          rw [show fO (mS (V 17 0) other) = mS (V 17 0) other by omega]
          refine z_callV E (ci := 6) (N := 16) (C := RX6) (T := TX6) (n := 2) (st := []) (rfl : vl 16 0 = true) rfl rfl [.int (iI (mS (V 17 0) one)), .int (iI (mS (V 17 0) other))] (kX6_otherPlaces l G P V (mS (V 17 0) one) (mS (V 17 0) other) hB (by omega) (by omega) hmL (by omega) (by omega) (by omega) (by omega)) gX6_unlike_X6_otherPlaces rfl ⟨rfl, rfl⟩ (by decide +kernel) ⟨Nat.le_of_ble_eq_true rfl, Nat.le_of_ble_eq_true rfl⟩ rfl rfl (Nat.le_of_ble_eq_true rfl) rfl dX6_unlike_92 (z_dtI ?_)
          exact z_iret E dX6_unlike_95 (⟨by rw [if_neg (by omega), if_neg (by omega), if_neg (by omega), if_pos (by omega)], rfl, rfl⟩)
        refine z_tsO E 96 (by omega) dX6_unlike_29 (by omega) rfl ?_
        refine z_aload_n E dX6_unlike_96 0 rfl rfl ?_
        refine z_iload_n E dX6_unlike_97 1 rfl rfl ?_
        refine z_iload_n E dX6_unlike_98 2 rfl rfl ?_
        refine z_callV E (ci := 6) (N := 16) (C := RX6) (T := TX6) (n := 2) (st := []) (rfl : vl 16 0 = true) rfl rfl [.int (iI one), .int (iI other)] (kX6_common l G P V one other hB (by omega) (by omega) hmL hI (by omega) (by omega) (by omega) (by omega)) gX6_unlike_X6_common rfl ⟨rfl, rfl⟩ (by decide +kernel) ⟨Nat.le_of_ble_eq_true rfl, Nat.le_of_ble_eq_true rfl⟩ rfl rfl (Nat.le_of_ble_eq_true rfl) rfl dX6_unlike_99 (z_dtI ?_)
        exact z_iret E dX6_unlike_102 (⟨by rw [if_neg (by omega), if_neg (by omega), if_neg (by omega), if_neg (by omega)], rfl, rfl⟩)
      · skip
        refine z_ldc E (-1000001) f0 rfl dX6_unlike_25 ?_
        exact z_iret E dX6_unlike_27 (⟨by rw [if_pos (by omega)], rfl, rfl⟩)

set_option maxHeartbeats 4000000 in
set_option maxRecDepth 100000 in
theorem kX6_like (l : Launch) (G : Gl) (P : Nat → Nat) (V : Vt) (x : Int) (hB : BV V) (hm0 : 0 ≤ V 17 0 0) (hm1 : V 17 0 0 ≤ 16) (hmL : ∀ k p, 0 ≤ k → k < 16 → 0 ≤ p → p < 6 → 0 ≤ mo (V 17 0) k (2 + p) ∧ mo (V 17 0) k (2 + p) < 40) (r1 : inR x) : Met l yX6_like wsX6_like ({ frames := 3, cells := 0, slots := 0, locals := 70 }) (va_Pc [.ref (ad G 16 0), .int (iI x)] (Sg G P V)) (Qk G mkI (dt (if mS (V 17 0) x < 0 then -1000001 else if fnd (V 17 0 0) (fun k => ¬ mo (V 17 0) k 0 = x ∧ sm 48 (fun c => b2i (¬ mc (V 17 0) k c = mc (V 17 0) (mS (V 17 0) x) c)) = 0) < 0 then -1000004 else mo (V 17 0) (fnd (V 17 0 0) (fun k => ¬ mo (V 17 0) k 0 = x ∧ sm 48 (fun c => b2i (¬ mc (V 17 0) k c = mc (V 17 0) (mS (V 17 0) x) c)) = 0)) 0) P V)) 0 0 (mem G) := by
  refine z_met (cc := cX6_like) (nL := 3) (ret := (some .int)) (own := RX6) (by decide +kernel) rfl rfl (Nat.le_of_ble_eq_true rfl) (zz_cat rfl) (L := [some (.ref (ad G 16 0)), some (.int (iI x)), none]) rfl ?_
  intro X E
  have iX6 : ∀ x ∈ wsX60, x ∈ wsX6_like := by decide +kernel
  have f0 : Cond.fieldLink RX6 7 "SharedStatesModel" "s" "[I" ∈ wsX6_like := by decide +kernel
  have f1 : Cond.constant RX6 43 (-1000004) ∈ wsX6_like := by decide +kernel
  have f2 : Cond.constant RX6 111 (-1000001) ∈ wsX6_like := by decide +kernel
  refine z_aload_n E dX6_like_0 0 rfl rfl ?_
  refine z_iload_n E dX6_like_1 1 rfl rfl ?_
  refine z_callV E (ci := 6) (N := 16) (C := RX6) (T := TX6) (n := 1) (st := []) (rfl : vl 16 0 = true) rfl rfl [.int (iI x)] (kX6_isState l G P V x hB (by omega) (by omega) (by omega)) gX6_like_X6_isState rfl ⟨rfl, rfl⟩ (by decide +kernel) ⟨Nat.le_of_ble_eq_true rfl, Nat.le_of_ble_eq_true rfl⟩ rfl rfl (Nat.le_of_ble_eq_true rfl) rfl dX6_like_2 (z_dtI ?_)
  have h_1a := mS_c (V 17 0) x
  refine z_ifne_b E 11 dX6_like_5 rfl (fun c_2 => ?_) (fun c_2 => ?_)
  · skip
    refine z_iconst E dX6_like_11 ?_
    refine z_istore_n E dX6_like_12 2 rfl (L' := [some (.ref (ad G 16 0)), some (.int (iI x)), some (.int (iI 0))]) (Nat.le_of_ble_eq_true rfl) rfl ?_
    have lp_13_3 : ∀ (fuel : Nat) (k : Int), (0 ≤ k) → (k ≤ V 17 0 0) → (∀ j, 0 ≤ j → j < k → ¬ (¬ mo (V 17 0) j 0 = x ∧ sm 48 (fun c => b2i (¬ mc (V 17 0) j c = mc (V 17 0) (mS (V 17 0) x) c)) = 0)) → (V 17 0 0 - k : Int).toNat < fuel → Kz X G P V [some (.ref (ad G 16 0)), some (.int (iI x)), some (.int (iI k))] 13 [] := by
      intro fuel
      induction fuel with
      | zero => intro k hk0 hk1 hla hf_13; exact absurd hf_13 (Nat.not_lt_zero _)
      | succ fuel ih_13 =>
        intro k hk0 hk1 hla hf_13
        refine z_iload_n E dX6_like_13 2 rfl rfl ?_
        refine z_aload_n E dX6_like_14 0 rfl rfl ?_
        refine z_get E (ci := 6) (N := 16) (C := RX6) (T := TX6) (rfl : vl 16 0 = true) rfl rfl iX6 0 (by decide) rfl f0 rfl dX6_like_15 ?_
        refine z_iconst E dX6_like_18 ?_
        refine z_iald E (rfl : vl 17 0 = true) 498 rfl (by omega) (by omega) (by omega) dX6_like_19 ?_
        have hr_4 := hB.s 0 (by omega)
        refine z_icmp_ge E 60 dX6_like_20 rfl (by omega) (by omega) (fun c_5 => ?_) (fun c_5 => ?_)
        · skip
          refine z_ldc E (-1000004) f1 rfl dX6_like_60 ?_
          exact z_iret E dX6_like_62 (by
              have hf : fnd (V 17 0 0) (fun k => ¬ mo (V 17 0) k 0 = x ∧ sm 48 (fun c => b2i (¬ mc (V 17 0) k c = mc (V 17 0) (mS (V 17 0) x) c)) = 0) = -1 := fnd_n (fun j h0 h1 => hla j h0 (by omega))
              exact ⟨by rw [if_neg (by omega), if_pos (by omega)], rfl, rfl⟩)
        · skip
          refine z_aload_n E dX6_like_23 0 rfl rfl ?_
          refine z_iload_n E dX6_like_24 2 rfl rfl ?_
          refine z_iconst E dX6_like_25 ?_
          refine z_callV E (ci := 6) (N := 16) (C := RX6) (T := TX6) (n := 2) (st := []) (rfl : vl 16 0 = true) rfl rfl [.int (iI k), .int (iI 0)] (kX6_of l G P V k 0 hB (by omega) (by omega) (by omega) (by omega)) gX6_like_X6_of rfl ⟨rfl, rfl⟩ (by decide +kernel) ⟨Nat.le_of_ble_eq_true rfl, Nat.le_of_ble_eq_true rfl⟩ rfl rfl (Nat.le_of_ble_eq_true rfl) rfl dX6_like_26 (z_dtI ?_)
          have h_6a := mo_R hB k 0 (by omega) (by omega)
          refine z_iload_n E dX6_like_29 1 rfl rfl ?_
          refine z_icmp_eq E 54 dX6_like_30 rfl (by omega) (by omega) (fun c_7 => ?_) (fun c_7 => ?_)
          · skip
            refine z_iinc E k dX6_like_54 (L' := [some (.ref (ad G 16 0)), some (.int (iI x)), some (.int (iI (k + 1)))]) (Nat.le_of_ble_eq_true rfl) rfl rfl ?_
            refine z_goto E 13 dX6_like_57 rfl ?_
            exact ih_13 (k + 1) (by omega) (by omega) (all_s hla (by first | exact fun z => absurd (by assumption) z.1 | exact fun z => absurd z.2 (by assumption))) (by omega)
          · skip
            refine z_aload_n E dX6_like_33 0 rfl rfl ?_
            refine z_iload_n E dX6_like_34 2 rfl rfl ?_
            refine z_aload_n E dX6_like_35 0 rfl rfl ?_
            refine z_iload_n E dX6_like_36 1 rfl rfl ?_
            refine z_callV E (ci := 6) (N := 16) (C := RX6) (T := TX6) (n := 1) (st := [.int (iI k), .ref (ad G 16 0)]) (rfl : vl 16 0 = true) rfl rfl [.int (iI x)] (kX6_slot l G P V x hB (by omega) (by omega) (by omega)) gX6_like_X6_slot rfl ⟨rfl, rfl⟩ (by decide +kernel) ⟨Nat.le_of_ble_eq_true rfl, Nat.le_of_ble_eq_true rfl⟩ rfl rfl (Nat.le_of_ble_eq_true rfl) rfl dX6_like_37 (z_dtI ?_)
            have h_8a := mS_c (V 17 0) x
            rw [show fO (mS (V 17 0) x) = mS (V 17 0) x by omega]
            refine z_iconst E dX6_like_40 ?_
            refine z_callV E (ci := 6) (N := 16) (C := RX6) (T := TX6) (n := 3) (st := []) (rfl : vl 16 0 = true) rfl rfl [.int (iI k), .int (iI (mS (V 17 0) x)), .int (iI 0)] (kX6_unlikeCells l G P V k (mS (V 17 0) x) 0 hB (by omega) (by omega) hmL (by omega) (by omega) (by omega) (by omega) (by omega)) gX6_like_X6_unlikeCells rfl ⟨rfl, rfl⟩ (by decide +kernel) ⟨Nat.le_of_ble_eq_true rfl, Nat.le_of_ble_eq_true rfl⟩ rfl rfl (Nat.le_of_ble_eq_true rfl) rfl dX6_like_41 (z_dtI ?_)
            rw [if_pos (show (0 : Int) = 0 from rfl)]
            have zqm := sm_b2i_bd (n := 48) (p := fun c => ¬ mc (V 17 0) k c = mc (V 17 0) (mS (V 17 0) x) c) (by omega)
            refine z_if_ne E 54 dX6_like_44 rfl (by omega) (fun c_10 => ?_) (fun c_10 => ?_)
            · skip
              refine z_iinc E k dX6_like_54 (L' := [some (.ref (ad G 16 0)), some (.int (iI x)), some (.int (iI (k + 1)))]) (Nat.le_of_ble_eq_true rfl) rfl rfl ?_
              refine z_goto E 13 dX6_like_57 rfl ?_
              exact ih_13 (k + 1) (by omega) (by omega) (all_s hla (by first | exact fun z => absurd (by assumption) z.1 | exact fun z => absurd z.2 (by assumption))) (by omega)
            · skip
              refine z_aload_n E dX6_like_47 0 rfl rfl ?_
              refine z_iload_n E dX6_like_48 2 rfl rfl ?_
              refine z_iconst E dX6_like_49 ?_
              refine z_callV E (ci := 6) (N := 16) (C := RX6) (T := TX6) (n := 2) (st := []) (rfl : vl 16 0 = true) rfl rfl [.int (iI k), .int (iI 0)] (kX6_of l G P V k 0 hB (by omega) (by omega) (by omega) (by omega)) gX6_like_X6_of rfl ⟨rfl, rfl⟩ (by decide +kernel) ⟨Nat.le_of_ble_eq_true rfl, Nat.le_of_ble_eq_true rfl⟩ rfl rfl (Nat.le_of_ble_eq_true rfl) rfl dX6_like_50 (z_dtI ?_)
              have h_11a := mo_R hB k 0 (by omega) (by omega)
              exact z_iret E dX6_like_53 (by
                  have hf : fnd (V 17 0 0) (fun k => ¬ mo (V 17 0) k 0 = x ∧ sm 48 (fun c => b2i (¬ mc (V 17 0) k c = mc (V 17 0) (mS (V 17 0) x) c)) = 0) = k := fnd_y (by omega) (by omega) ⟨by assumption, by assumption⟩ hla
                  exact ⟨by rw [hf, if_neg (by omega), if_neg (by omega)], rfl, rfl⟩)
    exact lp_13_3 ((V 17 0 0 - 0 : Int).toNat + 1) 0 (by omega) (by omega) all_0 (Nat.lt_succ_self _)
  · skip
    refine z_ldc E (-1000001) f2 rfl dX6_like_8 ?_
    exact z_iret E dX6_like_10 (⟨by rw [if_pos (by omega)], rfl, rfl⟩)

set_option maxHeartbeats 4000000 in
set_option maxRecDepth 100000 in
theorem kX6_before (l : Launch) (G : Gl) (P : Nat → Nat) (V : Vt) (x : Int) (c : Int) (hB : BV V) (hm0 : 0 ≤ V 17 0 0) (hm1 : V 17 0 0 ≤ 16) (hmL : ∀ k p, 0 ≤ k → k < 16 → 0 ≤ p → p < 6 → 0 ≤ mo (V 17 0) k (2 + p) ∧ mo (V 17 0) k (2 + p) < 40) (hI : MI (V 17 0)) (r1 : inR x) (r2 : inR c) : Met l yX6_before wsX6_before ({ frames := 3, cells := 0, slots := 0, locals := 65 }) (va_Pc [.ref (ad G 16 0), .int (iI x), .int (iI c)] (Sg G P V)) (Qk G mkI (dt (if 0 ≤ mS (V 17 0) x ∧ 0 ≤ c ∧ c ≤ 47 then (if bfG (V 17 0) (fun sl => ¬ mc (V 17 0) sl c = mc (V 17 0) (mS (V 17 0) x) c) 17 x < 0 then -1000004 else bfG (V 17 0) (fun sl => ¬ mc (V 17 0) sl c = mc (V 17 0) (mS (V 17 0) x) c) 17 x) else -1000001) P V)) 0 0 (mem G) := by
  refine z_met (cc := cX6_before) (nL := 5) (ret := (some .int)) (own := RX6) (by decide +kernel) rfl rfl (Nat.le_of_ble_eq_true rfl) (zz_cat rfl) (L := [some (.ref (ad G 16 0)), some (.int (iI x)), some (.int (iI c)), none, none]) rfl ?_
  intro X E
  have f0 : Cond.constant RX6 111 (-1000001) ∈ wsX6_before := by decide +kernel
  have f1 : Cond.constant RX6 43 (-1000004) ∈ wsX6_before := by decide +kernel
  refine z_aload_n E dX6_before_0 0 rfl rfl ?_
  refine z_iload_n E dX6_before_1 1 rfl rfl ?_
  refine z_callV E (ci := 6) (N := 16) (C := RX6) (T := TX6) (n := 1) (st := []) (rfl : vl 16 0 = true) rfl rfl [.int (iI x)] (kX6_isState l G P V x hB (by omega) (by omega) (by omega)) gX6_before_X6_isState rfl ⟨rfl, rfl⟩ (by decide +kernel) ⟨Nat.le_of_ble_eq_true rfl, Nat.le_of_ble_eq_true rfl⟩ rfl rfl (Nat.le_of_ble_eq_true rfl) rfl dX6_before_2 (z_dtI ?_)
  have h_1a := mS_c (V 17 0) x
  refine z_ifeq_b E 18 dX6_before_5 rfl (fun c_2 => ?_) (fun c_2 => ?_)
  · skip
    refine z_ldc E (-1000001) f0 rfl dX6_before_18 ?_
    exact z_iret E dX6_before_20 (⟨by rw [if_neg (by omega)], rfl, rfl⟩)
  · skip
    refine z_iload_n E dX6_before_8 2 rfl rfl ?_
    refine z_iconst E dX6_before_9 ?_
    refine z_bipush E dX6_before_10 rfl ?_
    refine z_callS E (n := 3) (st := []) [.int (iI c), .int (iI 0), .int (iI 47)] (kX6_in l G P V c 0 47 (by omega) (by omega) (by omega)) gX6_before_X6_in rfl ⟨rfl, rfl⟩ (by decide +kernel) ⟨Nat.le_of_ble_eq_true rfl, Nat.le_of_ble_eq_true rfl⟩ rfl rfl (Nat.le_of_ble_eq_true rfl) rfl dX6_before_12 (z_dtI ?_)
    refine z_ifne_b E 21 dX6_before_15 rfl (fun c_4 => ?_) (fun c_4 => ?_)
    · skip
      refine z_aload_n E dX6_before_21 0 rfl rfl ?_
      refine z_aload_n E dX6_before_22 0 rfl rfl ?_
      refine z_iload_n E dX6_before_23 1 rfl rfl ?_
      refine z_callV E (ci := 6) (N := 16) (C := RX6) (T := TX6) (n := 1) (st := [.ref (ad G 16 0)]) (rfl : vl 16 0 = true) rfl rfl [.int (iI x)] (kX6_slot l G P V x hB (by omega) (by omega) (by omega)) gX6_before_X6_slot rfl ⟨rfl, rfl⟩ (by decide +kernel) ⟨Nat.le_of_ble_eq_true rfl, Nat.le_of_ble_eq_true rfl⟩ rfl rfl (Nat.le_of_ble_eq_true rfl) rfl dX6_before_24 (z_dtI ?_)
      have h_5a := mS_c (V 17 0) x
      rw [show fO (mS (V 17 0) x) = mS (V 17 0) x by omega]
      refine z_iload_n E dX6_before_27 2 rfl rfl ?_
      refine z_callV E (ci := 6) (N := 16) (C := RX6) (T := TX6) (n := 2) (st := []) (rfl : vl 16 0 = true) rfl rfl [.int (iI (mS (V 17 0) x)), .int (iI c)] (kX6_cellOf l G P V (mS (V 17 0) x) c hB (by omega) (by omega) hmL (by omega) (by omega) (by omega) (by omega)) gX6_before_X6_cellOf rfl ⟨rfl, rfl⟩ (by decide +kernel) ⟨Nat.le_of_ble_eq_true rfl, Nat.le_of_ble_eq_true rfl⟩ rfl rfl (Nat.le_of_ble_eq_true rfl) rfl dX6_before_28 (z_dtI ?_)
      have h_6a := mc_R hB hmL (mS (V 17 0) x) c (by omega) (by omega) (by omega) (by omega)
      refine z_istore_n E dX6_before_31 3 rfl (L' := [some (.ref (ad G 16 0)), some (.int (iI x)), some (.int (iI c)), some (.int (iI (mc (V 17 0) (mS (V 17 0) x) c))), none]) (Nat.le_of_ble_eq_true rfl) rfl ?_
      refine z_iload_n E dX6_before_32 1 rfl rfl ?_
      refine z_istore E dX6_before_33 (L' := [some (.ref (ad G 16 0)), some (.int (iI x)), some (.int (iI c)), some (.int (iI (mc (V 17 0) (mS (V 17 0) x) c))), some (.int (iI x))]) (Nat.le_of_ble_eq_true rfl) rfl ?_
      have lp_35_7 : ∀ (fuel : Nat) (k : Int) (i : Int), (0 ≤ i) → (k < 0 ∨ (0 ≤ mS (V 17 0) k ∧ mS (V 17 0) k ≤ 15 - i)) → (inR k) → (i ≤ 16) → (bfG (V 17 0) (fun sl => ¬ mc (V 17 0) sl c = mc (V 17 0) (mS (V 17 0) x) c) (17 - i).toNat k = bfG (V 17 0) (fun sl => ¬ mc (V 17 0) sl c = mc (V 17 0) (mS (V 17 0) x) c) 17 x) → (17 - i : Int).toNat < fuel → Kz X G P V [some (.ref (ad G 16 0)), some (.int (iI x)), some (.int (iI c)), some (.int (iI (mc (V 17 0) (mS (V 17 0) x) c))), some (.int (iI k))] 35 [] := by
        intro fuel
        induction fuel with
        | zero => intro k i hi0 hi1 hkr hi2 hm hf_35; exact absurd hf_35 (Nat.not_lt_zero _)
        | succ fuel ih_35 =>
          intro k i hi0 hi1 hkr hi2 hm hf_35
          refine z_iload E dX6_before_35 rfl ?_
          refine z_if_lt E 71 dX6_before_37 rfl (by omega) (fun c_8 => ?_) (fun c_8 => ?_)
          · skip
            refine z_iload E dX6_before_71 rfl ?_
            refine z_if_ge E 81 dX6_before_73 rfl (by omega) (fun c_9 => ?_) (fun c_9 => ?_)
            · skip
              refine z_iload E dX6_before_81 rfl ?_
              exact z_iret E dX6_before_83 (⟨by rw [if_pos (by omega), ← hm]; first | (exfalso; omega) | (rw [bfG_n (by omega), if_pos (by omega)]; done) | (rw [bfG_y (by assumption), if_neg (by omega)]; done), rfl, rfl⟩)
            · skip
              refine z_ldc E (-1000004) f1 rfl dX6_before_76 ?_
              refine z_goto E 83 dX6_before_78 rfl ?_
              exact z_iret E dX6_before_83 (⟨by rw [if_pos (by omega), ← hm]; first | (exfalso; omega) | (rw [bfG_n (by omega), if_pos (by omega)]; done) | (rw [bfG_y (by assumption), if_neg (by omega)]; done), rfl, rfl⟩)
          · skip
            refine z_aload_n E dX6_before_40 0 rfl rfl ?_
            refine z_aload_n E dX6_before_41 0 rfl rfl ?_
            refine z_iload E dX6_before_42 rfl ?_
            refine z_callV E (ci := 6) (N := 16) (C := RX6) (T := TX6) (n := 1) (st := [.ref (ad G 16 0)]) (rfl : vl 16 0 = true) rfl rfl [.int (iI k)] (kX6_slot l G P V k hB (by omega) (by omega) (by omega)) gX6_before_X6_slot rfl ⟨rfl, rfl⟩ (by decide +kernel) ⟨Nat.le_of_ble_eq_true rfl, Nat.le_of_ble_eq_true rfl⟩ rfl rfl (Nat.le_of_ble_eq_true rfl) rfl dX6_before_44 (z_dtI ?_)
            have h_10a := mS_c (V 17 0) k
            have zqv : 0 ≤ mS (V 17 0) k ∧ mS (V 17 0) k ≤ 15 - i := by omega
            rw [show fO (mS (V 17 0) k) = mS (V 17 0) k by omega]
            refine z_iload_n E dX6_before_47 2 rfl rfl ?_
            refine z_callV E (ci := 6) (N := 16) (C := RX6) (T := TX6) (n := 2) (st := []) (rfl : vl 16 0 = true) rfl rfl [.int (iI (mS (V 17 0) k)), .int (iI c)] (kX6_cellOf l G P V (mS (V 17 0) k) c hB (by omega) (by omega) hmL (by omega) (by omega) (by omega) (by omega)) gX6_before_X6_cellOf rfl ⟨rfl, rfl⟩ (by decide +kernel) ⟨Nat.le_of_ble_eq_true rfl, Nat.le_of_ble_eq_true rfl⟩ rfl rfl (Nat.le_of_ble_eq_true rfl) rfl dX6_before_48 (z_dtI ?_)
            have h_11a := mc_R hB hmL (mS (V 17 0) k) c (by omega) (by omega) (by omega) (by omega)
            refine z_iload_n E dX6_before_51 3 rfl rfl ?_
            refine z_icmp_ne E 71 dX6_before_52 rfl (by omega) (by omega) (fun c_12 => ?_) (fun c_12 => ?_)
            · skip
              refine z_iload E dX6_before_71 rfl ?_
              refine z_if_ge E 81 dX6_before_73 rfl (by omega) (fun c_13 => ?_) (fun c_13 => ?_)
              · skip
                refine z_iload E dX6_before_81 rfl ?_
                exact z_iret E dX6_before_83 (⟨by rw [if_pos (by omega), ← hm]; first | (exfalso; omega) | (rw [bfG_n (by omega), if_pos (by omega)]; done) | (rw [bfG_y (by assumption), if_neg (by omega)]; done), rfl, rfl⟩)
              · skip
                refine z_ldc E (-1000004) f1 rfl dX6_before_76 ?_
                refine z_goto E 83 dX6_before_78 rfl ?_
                exact z_iret E dX6_before_83 (⟨by rw [if_pos (by omega), ← hm]; first | (exfalso; omega) | (rw [bfG_n (by omega), if_pos (by omega)]; done) | (rw [bfG_y (by assumption), if_neg (by omega)]; done), rfl, rfl⟩)
            · skip
              refine z_aload_n E dX6_before_55 0 rfl rfl ?_
              refine z_aload_n E dX6_before_56 0 rfl rfl ?_
              refine z_iload E dX6_before_57 rfl ?_
              refine z_callV E (ci := 6) (N := 16) (C := RX6) (T := TX6) (n := 1) (st := [.ref (ad G 16 0)]) (rfl : vl 16 0 = true) rfl rfl [.int (iI k)] (kX6_slot l G P V k hB (by omega) (by omega) (by omega)) gX6_before_X6_slot rfl ⟨rfl, rfl⟩ (by decide +kernel) ⟨Nat.le_of_ble_eq_true rfl, Nat.le_of_ble_eq_true rfl⟩ rfl rfl (Nat.le_of_ble_eq_true rfl) rfl dX6_before_59 (z_dtI ?_)
              have h_14a := mS_c (V 17 0) k
              rw [show fO (mS (V 17 0) k) = mS (V 17 0) k by omega]
              refine z_iconst E dX6_before_62 ?_
              refine z_callV E (ci := 6) (N := 16) (C := RX6) (T := TX6) (n := 2) (st := []) (rfl : vl 16 0 = true) rfl rfl [.int (iI (mS (V 17 0) k)), .int (iI 1)] (kX6_of l G P V (mS (V 17 0) k) 1 hB (by omega) (by omega) (by omega) (by omega)) gX6_before_X6_of rfl ⟨rfl, rfl⟩ (by decide +kernel) ⟨Nat.le_of_ble_eq_true rfl, Nat.le_of_ble_eq_true rfl⟩ rfl rfl (Nat.le_of_ble_eq_true rfl) rfl dX6_before_63 (z_dtI ?_)
              have h_15a := mo_R hB (mS (V 17 0) k) 1 (by omega) (by omega)
              refine z_istore E dX6_before_66 (L' := [some (.ref (ad G 16 0)), some (.int (iI x)), some (.int (iI c)), some (.int (iI (mc (V 17 0) (mS (V 17 0) x) c))), some (.int (iI (mo (V 17 0) (mS (V 17 0) k) 1)))]) (Nat.le_of_ble_eq_true rfl) rfl ?_
              refine z_goto E 35 dX6_before_68 rfl ?_
              have zqv : 0 ≤ mS (V 17 0) k ∧ mS (V 17 0) k ≤ 15 - i := by omega
              have zqn := hI.nn zqv.1
              have zqb : (0 < k ∧ 0 ≤ mS (V 17 0) (mo (V 17 0) (mS (V 17 0) k) 1) ∧ mS (V 17 0) (mo (V 17 0) (mS (V 17 0) k) 1) < mS (V 17 0) k ∧ mo (V 17 0) (mS (V 17 0) k) 1 < k) ∨ mo (V 17 0) (mS (V 17 0) k) 1 = -1 := by
                rcases Int.lt_or_le 0 k with q | q
                · have z := hI.par1 zqv.1 q
                  exact Or.inl ⟨q, z.1, z.2.2, z.2.1⟩
                · exact Or.inr (hI.par0 zqv.1 (by omega))
              exact ih_35 (mo (V 17 0) (mS (V 17 0) k) 1) (i + 1) (by omega) (by omega) (by omega) (by omega) (by rw [← hm, show (17 - i).toNat = (17 - (i + 1)).toNat + 1 by omega, bfG_s (by omega) (fun z => z (by assumption))]) (by omega)
      exact lp_35_7 ((17 - 0 : Int).toNat + 1) x 0 (by omega) (by have := hI.nn (show 0 ≤ mS (V 17 0) x by omega); have := hI.2.2.2.2.2; omega) (by omega) (by omega) rfl (Nat.lt_succ_self _)
    · skip
      refine z_ldc E (-1000001) f0 rfl dX6_before_18 ?_
      exact z_iret E dX6_before_20 (⟨by rw [if_neg (by omega)], rfl, rfl⟩)

set_option maxHeartbeats 4000000 in
set_option maxRecDepth 100000 in
theorem kX6_count (l : Launch) (G : Gl) (P : Nat → Nat) (V : Vt) (what : Int) (hB : BV V) (r1 : inR what) : Met l yX6_count wsX6_count ({ frames := 4, cells := 0, slots := 0, locals := 90 }) (va_Pc [.ref (ad G 16 0), .int (iI what)] (Sg G P V)) (Qk G mkI (dt (if what = 0 then V 17 0 0 else if what = 1 then sm 4 (fun d => b2i (0 ≤ mh (V 17 0) d)) else if what = 2 then sm 40 (fun b => mf (V 17 0) b) else if what = 3 then 6 * V 17 0 0 else if what = 4 then sm 40 (fun b => b2i ((0 ≤ b ∧ b ≤ 39 ∧ mf (V 17 0) b = 1) ∧ llM (V 17 0) b < b)) else if what = 5 ∨ what = 6 ∨ what = 7 ∨ what = 8 then V 17 0 (1 + what - 5) else if what = 9 then V 16 0 3 else if what = 10 then V 16 0 6 else if what = 20 then V 17 0 5 else -1000001) P V)) 0 0 (mem G) := by
  refine z_met (cc := cX6_count) (nL := 2) (ret := (some .int)) (own := RX6) (by decide +kernel) rfl rfl (Nat.le_of_ble_eq_true rfl) (zz_cat rfl) (L := [some (.ref (ad G 16 0)), some (.int (iI what))]) rfl ?_
  intro X E
  have iX6 : ∀ x ∈ wsX60, x ∈ wsX6_count := by decide +kernel
  have f0 : Cond.fieldLink RX6 7 "SharedStatesModel" "s" "[I" ∈ wsX6_count := by decide +kernel
  have f1 : Cond.fieldLink RX6 35 "SharedStatesModel" "pasts" "I" ∈ wsX6_count := by decide +kernel
  have f2 : Cond.fieldLink RX6 198 "SharedStatesModel" "typed" "I" ∈ wsX6_count := by decide +kernel
  have f3 : Cond.constant RX6 111 (-1000001) ∈ wsX6_count := by decide +kernel
  refine z_iload_n E dX6_count_0 1 rfl rfl ?_
  by_cases q_1_0 : what = 0
  · skip
    refine z_tsI E 0 100 q_1_0 (by omega) dX6_count_1 (by decide) (by decide) rfl rfl ?_
    refine z_aload_n E dX6_count_100 0 rfl rfl ?_
    refine z_get E (ci := 6) (N := 16) (C := RX6) (T := TX6) (rfl : vl 16 0 = true) rfl rfl iX6 0 (by decide) rfl f0 rfl dX6_count_101 ?_
    refine z_iconst E dX6_count_104 ?_
    refine z_iald E (rfl : vl 17 0 = true) 498 rfl (by omega) (by omega) (by omega) dX6_count_105 ?_
    have hr_2 := hB.s 0 (by omega)
    exact z_iret E dX6_count_106 (⟨by rw [if_pos (by omega)], rfl, rfl⟩)
  by_cases q_1_1 : what = 1
  · skip
    refine z_tsI E 1 107 q_1_1 (by omega) dX6_count_1 (by decide) (by decide) rfl rfl ?_
    refine z_aload_n E dX6_count_107 0 rfl rfl ?_
    refine z_callV E (ci := 6) (N := 16) (C := RX6) (T := TX6) (n := 0) (st := []) (rfl : vl 16 0 = true) rfl rfl [] (kX6_branches l G P V  hB) gX6_count_X6_branches rfl ⟨rfl, rfl⟩ (by decide +kernel) ⟨Nat.le_of_ble_eq_true rfl, Nat.le_of_ble_eq_true rfl⟩ rfl rfl (Nat.le_of_ble_eq_true rfl) rfl dX6_count_108 (z_dtI ?_)
    have h_3a := sm_b2i_bd (n := 4) (p := fun b => 0 ≤ mh (V 17 0) b) (by omega)
    exact z_iret E dX6_count_111 (⟨by rw [if_neg (by omega), if_pos (by omega)], rfl, rfl⟩)
  by_cases q_1_2 : what = 2
  · skip
    refine z_tsI E 2 112 q_1_2 (by omega) dX6_count_1 (by decide) (by decide) rfl rfl ?_
    refine z_aload_n E dX6_count_112 0 rfl rfl ?_
    refine z_callV E (ci := 6) (N := 16) (C := RX6) (T := TX6) (n := 0) (st := []) (rfl : vl 16 0 = true) rfl rfl [] (kX6_blocks l G P V  hB) gX6_count_X6_blocks rfl ⟨rfl, rfl⟩ (by decide +kernel) ⟨Nat.le_of_ble_eq_true rfl, Nat.le_of_ble_eq_true rfl⟩ rfl rfl (Nat.le_of_ble_eq_true rfl) rfl dX6_count_113 (z_dtI ?_)
    exact z_iret E dX6_count_116 (⟨by rw [if_neg (by omega), if_neg (by omega), if_pos (by omega)], rfl, rfl⟩)
  by_cases q_1_3 : what = 3
  · skip
    refine z_tsI E 3 117 q_1_3 (by omega) dX6_count_1 (by decide) (by decide) rfl rfl ?_
    refine z_bipush E dX6_count_117 rfl ?_
    refine z_aload_n E dX6_count_119 0 rfl rfl ?_
    refine z_get E (ci := 6) (N := 16) (C := RX6) (T := TX6) (rfl : vl 16 0 = true) rfl rfl iX6 0 (by decide) rfl f0 rfl dX6_count_120 ?_
    refine z_iconst E dX6_count_123 ?_
    refine z_iald E (rfl : vl 17 0 = true) 498 rfl (by omega) (by omega) (by omega) dX6_count_124 ?_
    have hr_5 := hB.s 0 (by omega)
    refine z_imul E dX6_count_125 ?_
    exact z_iret E dX6_count_126 (⟨by rw [if_neg (by omega), if_neg (by omega), if_neg (by omega), if_pos (by omega)], rfl, rfl⟩)
  by_cases q_1_4 : what = 4
  · skip
    refine z_tsI E 4 127 q_1_4 (by omega) dX6_count_1 (by decide) (by decide) rfl rfl ?_
    refine z_aload_n E dX6_count_127 0 rfl rfl ?_
    refine z_callV E (ci := 6) (N := 16) (C := RX6) (T := TX6) (n := 0) (st := []) (rfl : vl 16 0 = true) rfl rfl [] (kX6_shareable l G P V  hB) gX6_count_X6_shareable rfl ⟨rfl, rfl⟩ (by decide +kernel) ⟨Nat.le_of_ble_eq_true rfl, Nat.le_of_ble_eq_true rfl⟩ rfl rfl (Nat.le_of_ble_eq_true rfl) rfl dX6_count_128 (z_dtI ?_)
    exact z_iret E dX6_count_131 (⟨by rw [if_neg (by omega), if_neg (by omega), if_neg (by omega), if_neg (by omega), if_pos (by omega)], rfl, rfl⟩)
  by_cases q_1_5 : what = 5
  · skip
    refine z_tsI E 5 132 q_1_5 (by omega) dX6_count_1 (by decide) (by decide) rfl rfl ?_
    refine z_aload_n E dX6_count_132 0 rfl rfl ?_
    refine z_get E (ci := 6) (N := 16) (C := RX6) (T := TX6) (rfl : vl 16 0 = true) rfl rfl iX6 0 (by decide) rfl f0 rfl dX6_count_133 ?_
    refine z_iconst E dX6_count_136 ?_
    refine z_iload_n E dX6_count_137 1 rfl rfl ?_
    refine z_iadd E dX6_count_138 ?_
    refine z_iconst E dX6_count_139 ?_
    refine z_isub E dX6_count_140 ?_
    refine z_iald E (rfl : vl 17 0 = true) 498 rfl (by omega) (by omega) (by omega) dX6_count_141 ?_
    exact z_iret E dX6_count_142 (⟨by rw [if_neg (by omega), if_neg (by omega), if_neg (by omega), if_neg (by omega), if_neg (by omega), if_pos (by omega)], rfl, rfl⟩)
  by_cases q_1_6 : what = 6
  · skip
    refine z_tsI E 6 132 q_1_6 (by omega) dX6_count_1 (by decide) (by decide) rfl rfl ?_
    refine z_aload_n E dX6_count_132 0 rfl rfl ?_
    refine z_get E (ci := 6) (N := 16) (C := RX6) (T := TX6) (rfl : vl 16 0 = true) rfl rfl iX6 0 (by decide) rfl f0 rfl dX6_count_133 ?_
    refine z_iconst E dX6_count_136 ?_
    refine z_iload_n E dX6_count_137 1 rfl rfl ?_
    refine z_iadd E dX6_count_138 ?_
    refine z_iconst E dX6_count_139 ?_
    refine z_isub E dX6_count_140 ?_
    refine z_iald E (rfl : vl 17 0 = true) 498 rfl (by omega) (by omega) (by omega) dX6_count_141 ?_
    exact z_iret E dX6_count_142 (⟨by rw [if_neg (by omega), if_neg (by omega), if_neg (by omega), if_neg (by omega), if_neg (by omega), if_pos (by omega)], rfl, rfl⟩)
  by_cases q_1_7 : what = 7
  · skip
    refine z_tsI E 7 132 q_1_7 (by omega) dX6_count_1 (by decide) (by decide) rfl rfl ?_
    refine z_aload_n E dX6_count_132 0 rfl rfl ?_
    refine z_get E (ci := 6) (N := 16) (C := RX6) (T := TX6) (rfl : vl 16 0 = true) rfl rfl iX6 0 (by decide) rfl f0 rfl dX6_count_133 ?_
    refine z_iconst E dX6_count_136 ?_
    refine z_iload_n E dX6_count_137 1 rfl rfl ?_
    refine z_iadd E dX6_count_138 ?_
    refine z_iconst E dX6_count_139 ?_
    refine z_isub E dX6_count_140 ?_
    refine z_iald E (rfl : vl 17 0 = true) 498 rfl (by omega) (by omega) (by omega) dX6_count_141 ?_
    exact z_iret E dX6_count_142 (⟨by rw [if_neg (by omega), if_neg (by omega), if_neg (by omega), if_neg (by omega), if_neg (by omega), if_pos (by omega)], rfl, rfl⟩)
  by_cases q_1_8 : what = 8
  · skip
    refine z_tsI E 8 132 q_1_8 (by omega) dX6_count_1 (by decide) (by decide) rfl rfl ?_
    refine z_aload_n E dX6_count_132 0 rfl rfl ?_
    refine z_get E (ci := 6) (N := 16) (C := RX6) (T := TX6) (rfl : vl 16 0 = true) rfl rfl iX6 0 (by decide) rfl f0 rfl dX6_count_133 ?_
    refine z_iconst E dX6_count_136 ?_
    refine z_iload_n E dX6_count_137 1 rfl rfl ?_
    refine z_iadd E dX6_count_138 ?_
    refine z_iconst E dX6_count_139 ?_
    refine z_isub E dX6_count_140 ?_
    refine z_iald E (rfl : vl 17 0 = true) 498 rfl (by omega) (by omega) (by omega) dX6_count_141 ?_
    exact z_iret E dX6_count_142 (⟨by rw [if_neg (by omega), if_neg (by omega), if_neg (by omega), if_neg (by omega), if_neg (by omega), if_pos (by omega)], rfl, rfl⟩)
  by_cases q_1_9 : what = 9
  · skip
    refine z_tsI E 9 143 q_1_9 (by omega) dX6_count_1 (by decide) (by decide) rfl rfl ?_
    refine z_aload_n E dX6_count_143 0 rfl rfl ?_
    have hr_11 := hB.g 16 0 3 rfl
    refine z_get E (ci := 6) (N := 16) (C := RX6) (T := TX6) (rfl : vl 16 0 = true) rfl rfl iX6 3 (by decide) rfl f1 rfl dX6_count_144 ?_
    exact z_iret E dX6_count_147 (⟨by rw [if_neg (by omega), if_neg (by omega), if_neg (by omega), if_neg (by omega), if_neg (by omega), if_neg (by omega), if_pos (by omega)], rfl, rfl⟩)
  by_cases q_1_10 : what = 10
  · skip
    refine z_tsI E 10 148 q_1_10 (by omega) dX6_count_1 (by decide) (by decide) rfl rfl ?_
    refine z_aload_n E dX6_count_148 0 rfl rfl ?_
    have hr_12 := hB.g 16 0 6 rfl
    refine z_get E (ci := 6) (N := 16) (C := RX6) (T := TX6) (rfl : vl 16 0 = true) rfl rfl iX6 6 (by decide) rfl f2 rfl dX6_count_149 ?_
    exact z_iret E dX6_count_152 (⟨by rw [if_neg (by omega), if_neg (by omega), if_neg (by omega), if_neg (by omega), if_neg (by omega), if_neg (by omega), if_neg (by omega), if_pos (by omega)], rfl, rfl⟩)
  by_cases q_1_11 : what = 11
  · skip
    refine z_tsI E 11 160 q_1_11 (by omega) dX6_count_1 (by decide) (by decide) rfl rfl ?_
    refine z_ldc E (-1000001) f3 rfl dX6_count_160 ?_
    exact z_iret E dX6_count_162 (⟨by rw [if_neg (by omega), if_neg (by omega), if_neg (by omega), if_neg (by omega), if_neg (by omega), if_neg (by omega), if_neg (by omega), if_neg (by omega), if_neg (by omega)], rfl, rfl⟩)
  by_cases q_1_12 : what = 12
  · skip
    refine z_tsI E 12 160 q_1_12 (by omega) dX6_count_1 (by decide) (by decide) rfl rfl ?_
    refine z_ldc E (-1000001) f3 rfl dX6_count_160 ?_
    exact z_iret E dX6_count_162 (⟨by rw [if_neg (by omega), if_neg (by omega), if_neg (by omega), if_neg (by omega), if_neg (by omega), if_neg (by omega), if_neg (by omega), if_neg (by omega), if_neg (by omega)], rfl, rfl⟩)
  by_cases q_1_13 : what = 13
  · skip
    refine z_tsI E 13 160 q_1_13 (by omega) dX6_count_1 (by decide) (by decide) rfl rfl ?_
    refine z_ldc E (-1000001) f3 rfl dX6_count_160 ?_
    exact z_iret E dX6_count_162 (⟨by rw [if_neg (by omega), if_neg (by omega), if_neg (by omega), if_neg (by omega), if_neg (by omega), if_neg (by omega), if_neg (by omega), if_neg (by omega), if_neg (by omega)], rfl, rfl⟩)
  by_cases q_1_14 : what = 14
  · skip
    refine z_tsI E 14 160 q_1_14 (by omega) dX6_count_1 (by decide) (by decide) rfl rfl ?_
    refine z_ldc E (-1000001) f3 rfl dX6_count_160 ?_
    exact z_iret E dX6_count_162 (⟨by rw [if_neg (by omega), if_neg (by omega), if_neg (by omega), if_neg (by omega), if_neg (by omega), if_neg (by omega), if_neg (by omega), if_neg (by omega), if_neg (by omega)], rfl, rfl⟩)
  by_cases q_1_15 : what = 15
  · skip
    refine z_tsI E 15 160 q_1_15 (by omega) dX6_count_1 (by decide) (by decide) rfl rfl ?_
    refine z_ldc E (-1000001) f3 rfl dX6_count_160 ?_
    exact z_iret E dX6_count_162 (⟨by rw [if_neg (by omega), if_neg (by omega), if_neg (by omega), if_neg (by omega), if_neg (by omega), if_neg (by omega), if_neg (by omega), if_neg (by omega), if_neg (by omega)], rfl, rfl⟩)
  by_cases q_1_16 : what = 16
  · skip
    refine z_tsI E 16 160 q_1_16 (by omega) dX6_count_1 (by decide) (by decide) rfl rfl ?_
    refine z_ldc E (-1000001) f3 rfl dX6_count_160 ?_
    exact z_iret E dX6_count_162 (⟨by rw [if_neg (by omega), if_neg (by omega), if_neg (by omega), if_neg (by omega), if_neg (by omega), if_neg (by omega), if_neg (by omega), if_neg (by omega), if_neg (by omega)], rfl, rfl⟩)
  by_cases q_1_17 : what = 17
  · skip
    refine z_tsI E 17 160 q_1_17 (by omega) dX6_count_1 (by decide) (by decide) rfl rfl ?_
    refine z_ldc E (-1000001) f3 rfl dX6_count_160 ?_
    exact z_iret E dX6_count_162 (⟨by rw [if_neg (by omega), if_neg (by omega), if_neg (by omega), if_neg (by omega), if_neg (by omega), if_neg (by omega), if_neg (by omega), if_neg (by omega), if_neg (by omega)], rfl, rfl⟩)
  by_cases q_1_18 : what = 18
  · skip
    refine z_tsI E 18 160 q_1_18 (by omega) dX6_count_1 (by decide) (by decide) rfl rfl ?_
    refine z_ldc E (-1000001) f3 rfl dX6_count_160 ?_
    exact z_iret E dX6_count_162 (⟨by rw [if_neg (by omega), if_neg (by omega), if_neg (by omega), if_neg (by omega), if_neg (by omega), if_neg (by omega), if_neg (by omega), if_neg (by omega), if_neg (by omega)], rfl, rfl⟩)
  by_cases q_1_19 : what = 19
  · skip
    refine z_tsI E 19 160 q_1_19 (by omega) dX6_count_1 (by decide) (by decide) rfl rfl ?_
    refine z_ldc E (-1000001) f3 rfl dX6_count_160 ?_
    exact z_iret E dX6_count_162 (⟨by rw [if_neg (by omega), if_neg (by omega), if_neg (by omega), if_neg (by omega), if_neg (by omega), if_neg (by omega), if_neg (by omega), if_neg (by omega), if_neg (by omega)], rfl, rfl⟩)
  by_cases q_1_20 : what = 20
  · skip
    refine z_tsI E 20 153 q_1_20 (by omega) dX6_count_1 (by decide) (by decide) rfl rfl ?_
    refine z_aload_n E dX6_count_153 0 rfl rfl ?_
    refine z_get E (ci := 6) (N := 16) (C := RX6) (T := TX6) (rfl : vl 16 0 = true) rfl rfl iX6 0 (by decide) rfl f0 rfl dX6_count_154 ?_
    refine z_iconst E dX6_count_157 ?_
    refine z_iald E (rfl : vl 17 0 = true) 498 rfl (by omega) (by omega) (by omega) dX6_count_158 ?_
    have hr_13 := hB.s 5 (by omega)
    exact z_iret E dX6_count_159 (⟨by rw [if_neg (by omega), if_neg (by omega), if_neg (by omega), if_neg (by omega), if_neg (by omega), if_neg (by omega), if_neg (by omega), if_neg (by omega), if_pos (by omega)], rfl, rfl⟩)
  refine z_tsO E 160 (by omega) dX6_count_1 (by omega) rfl ?_
  refine z_ldc E (-1000001) f3 rfl dX6_count_160 ?_
  exact z_iret E dX6_count_162 (⟨by rw [if_neg (by omega), if_neg (by omega), if_neg (by omega), if_neg (by omega), if_neg (by omega), if_neg (by omega), if_neg (by omega), if_neg (by omega), if_neg (by omega)], rfl, rfl⟩)

set_option maxHeartbeats 4000000 in
set_option maxRecDepth 100000 in
theorem kX6_type (l : Launch) (G : Gl) (P : Nat → Nat) (V : Vt) (sg : Int) (hB : BV V) (ot : 0 ≤ V 16 0 6 ∧ V 16 0 6 ≤ 60) (r1 : inR sg) : Met l yX6_type wsX6_type ({ frames := 1, cells := 0, slots := 0, locals := 22 }) (va_Pc [.ref (ad G 16 0), .int (iI sg)] (Sg G P V)) (Qk G mkI (fun r P' V' => P' = P ∧ BV V' ∧ ((¬ (32 ≤ sg ∧ sg ≤ 126) ∧ r = -1000001 ∧ V' = V) ∨ ((32 ≤ sg ∧ sg ≤ 126) ∧ V 16 0 6 = 60 ∧ r = -1000003 ∧ V' = V) ∨ ((32 ≤ sg ∧ sg ≤ 126) ∧ V 16 0 6 < 60 ∧ r = V 16 0 6 + 1 ∧ V' = up (up V 20 0 (updI (V 20 0) (V 16 0 6) sg)) 16 0 (updI (V 16 0) 6 (V 16 0 6 + 1)))))) 0 0 (mem G) := by
  refine z_met (cc := cX6_type) (nL := 2) (ret := (some .int)) (own := RX6) (by decide +kernel) rfl rfl (Nat.le_of_ble_eq_true rfl) (zz_cat rfl) (L := [some (.ref (ad G 16 0)), some (.int (iI sg))]) rfl ?_
  intro X E
  have iX6 : ∀ x ∈ wsX60, x ∈ wsX6_type := by decide +kernel
  have f0 : Cond.fieldLink RX6 198 "SharedStatesModel" "typed" "I" ∈ wsX6_type := by decide +kernel
  have f1 : Cond.fieldLink RX6 19 "SharedStatesModel" "text" "[I" ∈ wsX6_type := by decide +kernel
  have f2 : Cond.constant RX6 94 (-1000003) ∈ wsX6_type := by decide +kernel
  have f3 : Cond.constant RX6 111 (-1000001) ∈ wsX6_type := by decide +kernel
  refine z_iload_n E dX6_type_0 1 rfl rfl ?_
  refine z_bipush E dX6_type_1 rfl ?_
  refine z_bipush E dX6_type_3 rfl ?_
  refine z_callS E (n := 3) (st := []) [.int (iI sg), .int (iI 32), .int (iI 126)] (kX6_in l G P V sg 32 126 (by omega) (by omega) (by omega)) gX6_type_X6_in rfl ⟨rfl, rfl⟩ (by decide +kernel) ⟨Nat.le_of_ble_eq_true rfl, Nat.le_of_ble_eq_true rfl⟩ rfl rfl (Nat.le_of_ble_eq_true rfl) rfl dX6_type_5 (z_dtI ?_)
  refine z_ifne_b E 14 dX6_type_8 rfl (fun c_2 => ?_) (fun c_2 => ?_)
  · skip
    refine z_aload_n E dX6_type_14 0 rfl rfl ?_
    have hr_3 := hB.g 16 0 6 rfl
    refine z_get E (ci := 6) (N := 16) (C := RX6) (T := TX6) (rfl : vl 16 0 = true) rfl rfl iX6 6 (by decide) rfl f0 rfl dX6_type_15 ?_
    refine z_bipush E dX6_type_18 rfl ?_
    refine z_icmp_ne E 26 dX6_type_20 rfl (by omega) (by omega) (fun c_4 => ?_) (fun c_4 => ?_)
    · skip
      refine z_aload_n E dX6_type_26 0 rfl rfl ?_
      refine z_get E (ci := 6) (N := 16) (C := RX6) (T := TX6) (rfl : vl 16 0 = true) rfl rfl iX6 5 (by decide) rfl f1 rfl dX6_type_27 ?_
      refine z_aload_n E dX6_type_30 0 rfl rfl ?_
      refine z_get E (ci := 6) (N := 16) (C := RX6) (T := TX6) (rfl : vl 16 0 = true) rfl rfl iX6 6 (by decide) rfl f0 rfl dX6_type_31 ?_
      refine z_iload_n E dX6_type_34 1 rfl rfl ?_
      refine z_iast E (rfl : vl 20 0 = true) 60 (fun _ => rfl) (by omega) (by omega) (by omega) dX6_type_35 ?_
      obtain ⟨V5, hV5⟩ : ∃ Z : Vt, Z = up V 20 0 (updI (V 20 0) (V 16 0 6) sg) := ⟨_, rfl⟩
      rw [← hV5]
      have hB5 : BV V5 := hV5 ▸ BV_up hB (by intro _; omega)
      have zqe : V5 16 0 6 = V 16 0 6 := by rw [hV5]; rfl
      refine z_aload_n E dX6_type_36 0 rfl rfl ?_
      refine z_dup E dX6_type_37 rfl ?_
      have hr_6 := hB5.g 16 0 6 rfl
      refine z_get E (ci := 6) (N := 16) (C := RX6) (T := TX6) (rfl : vl 16 0 = true) rfl rfl iX6 6 (by decide) rfl f0 rfl dX6_type_38 ?_
      refine z_iconst E dX6_type_41 ?_
      refine z_iadd E dX6_type_42 ?_
      refine z_put E (ci := 6) (N := 16) (C := RX6) (T := TX6) (ty := .int) (rfl : vl 16 0 = true) (updI (V5 16 0) 6 ((V5 16 0 6) + 1)) rfl rfl iX6 tyX6 tyX6_ok nmX6 6 (by decide) rfl f0 rfl rfl rfl rfl (Nat.le_of_ble_eq_true rfl) rfl dX6_type_43 ?_
      obtain ⟨V7, hV7⟩ : ∃ Z : Vt, Z = up V5 16 0 (updI (V5 16 0) 6 ((V5 16 0 6) + 1)) := ⟨_, rfl⟩
      rw [← hV7]
      have hB7 : BV V7 := hV7 ▸ BV_up hB5 (by intro _; omega)
      refine z_aload_n E dX6_type_46 0 rfl rfl ?_
      have hr_8 := hB7.g 16 0 6 rfl
      refine z_get E (ci := 6) (N := 16) (C := RX6) (T := TX6) (rfl : vl 16 0 = true) rfl rfl iX6 6 (by decide) rfl f0 rfl dX6_type_47 ?_
      exact z_iret E dX6_type_50 (⟨rfl, hB7, Or.inr (Or.inr ⟨by omega, by omega, by rw [hV7, hV5]; simp [up_s, up_r, updI], by rw [hV7, hV5] <;> rfl⟩)⟩)
    · skip
      refine z_ldc E (-1000003) f2 rfl dX6_type_23 ?_
      exact z_iret E dX6_type_25 (⟨rfl, hB, Or.inr (Or.inl ⟨by omega, by omega, rfl, rfl⟩)⟩)
  · skip
    refine z_ldc E (-1000001) f3 rfl dX6_type_11 ?_
    exact z_iret E dX6_type_13 (⟨rfl, hB, Or.inl ⟨by omega, rfl, rfl⟩⟩)

set_option maxHeartbeats 4000000 in
set_option maxRecDepth 100000 in
theorem kX6_clearText (l : Launch) (G : Gl) (P : Nat → Nat) (V : Vt) (hB : BV V) : Met l yX6_clearText wsX6_clearText ({ frames := 0, cells := 0, slots := 0, locals := 0 }) (va_Pc [.ref (ad G 16 0)] (Sg G P V)) (Qk G mkI (fun r P' V' => P' = P ∧ BV V' ∧ r = V 16 0 6 ∧ V' = up V 16 0 (updI (V 16 0) 6 0))) 0 0 (mem G) := by
  refine z_met (cc := cX6_clearText) (nL := 2) (ret := (some .int)) (own := RX6) (by decide +kernel) rfl rfl (Nat.le_of_ble_eq_true rfl) (zz_cat rfl) (L := [some (.ref (ad G 16 0)), none]) rfl ?_
  intro X E
  have iX6 : ∀ x ∈ wsX60, x ∈ wsX6_clearText := by decide +kernel
  have f0 : Cond.fieldLink RX6 198 "SharedStatesModel" "typed" "I" ∈ wsX6_clearText := by decide +kernel
  refine z_aload_n E dX6_clearText_0 0 rfl rfl ?_
  have hr_1 := hB.g 16 0 6 rfl
  refine z_get E (ci := 6) (N := 16) (C := RX6) (T := TX6) (rfl : vl 16 0 = true) rfl rfl iX6 6 (by decide) rfl f0 rfl dX6_clearText_1 ?_
  refine z_istore_n E dX6_clearText_4 1 rfl (L' := [some (.ref (ad G 16 0)), some (.int (iI (V 16 0 6)))]) (Nat.le_of_ble_eq_true rfl) rfl ?_
  refine z_aload_n E dX6_clearText_5 0 rfl rfl ?_
  refine z_iconst E dX6_clearText_6 ?_
  refine z_put E (ci := 6) (N := 16) (C := RX6) (T := TX6) (ty := .int) (rfl : vl 16 0 = true) (updI (V 16 0) 6 0) rfl rfl iX6 tyX6 tyX6_ok nmX6 6 (by decide) rfl f0 rfl rfl rfl rfl (Nat.le_of_ble_eq_true rfl) rfl dX6_clearText_7 ?_
  obtain ⟨V2, hV2⟩ : ∃ Z : Vt, Z = up V 16 0 (updI (V 16 0) 6 0) := ⟨_, rfl⟩
  rw [← hV2]
  have hB2 : BV V2 := hV2 ▸ BV_up hB (by intro _; omega)
  refine z_iload_n E dX6_clearText_10 1 rfl rfl ?_
  exact z_iret E dX6_clearText_11 (⟨rfl, hB2, rfl, hV2⟩)

set_option maxHeartbeats 4000000 in
set_option maxRecDepth 100000 in
theorem kX6_undo (l : Launch) (G : Gl) (P : Nat → Nat) (V : Vt) (hB : BV V) (hq : 0 ≤ V 16 0 3 ∧ V 16 0 3 ≤ 4) (hpa : ∀ j, 0 ≤ j → j < 1992 → ¬ (2 ≤ j % 498 ∧ j % 498 ≤ 4) → inR (V 18 0 j)) : Met l yX6_undo wsX6_undo ({ frames := 0, cells := 0, slots := 0, locals := 0 }) (va_Pc [.ref (ad G 16 0)] (Sg G P V)) (Qk G mkI (fun r P' V' => P' = P ∧ BV V' ∧ ((V 16 0 3 = 0 ∧ r = -1000002 ∧ V' = V) ∨ (0 < V 16 0 3 ∧ r = V 16 0 3 - 1 ∧ V' = up (up V 16 0 (updI (V 16 0) 3 (V 16 0 3 - 1))) 17 0 (cpI (V 18 0) (V 17 0) (498 * (V 16 0 3 - 1)) 0 498))))) 0 0 (mem G) := by
  refine z_met (cc := cX6_undo) (nL := 2) (ret := (some .int)) (own := RX6) (by decide +kernel) rfl rfl (Nat.le_of_ble_eq_true rfl) (zz_cat rfl) (L := [some (.ref (ad G 16 0)), none]) rfl ?_
  intro X E
  have iX6 : ∀ x ∈ wsX60, x ∈ wsX6_undo := by decide +kernel
  have f0 : Cond.fieldLink RX6 35 "SharedStatesModel" "pasts" "I" ∈ wsX6_undo := by decide +kernel
  have f1 : Cond.fieldLink RX6 7 "SharedStatesModel" "s" "[I" ∈ wsX6_undo := by decide +kernel
  have f2 : Cond.fieldLink RX6 13 "SharedStatesModel" "past" "[I" ∈ wsX6_undo := by decide +kernel
  have f3 : Cond.constant RX6 134 (-1000002) ∈ wsX6_undo := by decide +kernel
  refine z_aload_n E dX6_undo_0 0 rfl rfl ?_
  have hr_1 := hB.g 16 0 3 rfl
  refine z_get E (ci := 6) (N := 16) (C := RX6) (T := TX6) (rfl : vl 16 0 = true) rfl rfl iX6 3 (by decide) rfl f0 rfl dX6_undo_1 ?_
  refine z_if_ne E 10 dX6_undo_4 rfl (by omega) (fun c_2 => ?_) (fun c_2 => ?_)
  · skip
    refine z_aload_n E dX6_undo_10 0 rfl rfl ?_
    refine z_dup E dX6_undo_11 rfl ?_
    refine z_get E (ci := 6) (N := 16) (C := RX6) (T := TX6) (rfl : vl 16 0 = true) rfl rfl iX6 3 (by decide) rfl f0 rfl dX6_undo_12 ?_
    refine z_iconst E dX6_undo_15 ?_
    refine z_isub E dX6_undo_16 ?_
    refine z_put E (ci := 6) (N := 16) (C := RX6) (T := TX6) (ty := .int) (rfl : vl 16 0 = true) (updI (V 16 0) 3 ((V 16 0 3) - 1)) rfl rfl iX6 tyX6 tyX6_ok nmX6 3 (by decide) rfl f0 rfl rfl rfl rfl (Nat.le_of_ble_eq_true rfl) rfl dX6_undo_17 ?_
    obtain ⟨V3, hV3⟩ : ∃ Z : Vt, Z = up V 16 0 (updI (V 16 0) 3 ((V 16 0 3) - 1)) := ⟨_, rfl⟩
    rw [← hV3]
    have hB3 : BV V3 := hV3 ▸ BV_up hB (by intro _; omega)
    have zqe : V3 16 0 3 = V 16 0 3 - 1 := by rw [hV3]; simp [up_s, updI]
    have zq18 : V3 18 0 = V 18 0 := by rw [hV3]; rfl
    have zqw := hV3
    refine z_iconst E dX6_undo_20 ?_
    refine z_istore_n E dX6_undo_21 1 rfl (L' := [some (.ref (ad G 16 0)), some (.int (iI 0))]) (Nat.le_of_ble_eq_true rfl) rfl ?_
    have lp_22_4 : ∀ (fuel : Nat) (k : Int) (Vl_22 : Vt), BV Vl_22 → (0 ≤ k) → (k ≤ 498) → (Vl_22 = up V3 17 0 (cpI (V 18 0) (V 17 0) (498 * (V 16 0 3 - 1)) 0 k)) → (498 - k : Int).toNat < fuel → Kz X G P Vl_22 [some (.ref (ad G 16 0)), some (.int (iI k))] 22 [] := by
      intro fuel
      induction fuel with
      | zero => intro k Vl_22 hBl_22 hk0 hk1 hVl hf_22; exact absurd hf_22 (Nat.not_lt_zero _)
      | succ fuel ih_22 =>
        intro k Vl_22 hBl_22 hk0 hk1 hVl hf_22
        have zq3 : Vl_22 16 0 3 = V 16 0 3 - 1 := by rw [hVl]; exact zqe
        have zqp : Vl_22 18 0 = V 18 0 := by rw [hVl]; exact zq18
        refine z_iload_n E dX6_undo_22 1 rfl rfl ?_
        refine z_sipush E dX6_undo_23 rfl ?_
        refine z_icmp_ge E 56 dX6_undo_26 rfl (by omega) (by omega) (fun c_5 => ?_) (fun c_5 => ?_)
        · skip
          refine z_aload_n E dX6_undo_56 0 rfl rfl ?_
          have hr_6 := hBl_22.g 16 0 3 rfl
          refine z_get E (ci := 6) (N := 16) (C := RX6) (T := TX6) (rfl : vl 16 0 = true) rfl rfl iX6 3 (by decide) rfl f0 rfl dX6_undo_57 ?_
          exact z_iret E dX6_undo_60 (⟨rfl, hBl_22, Or.inr ⟨by omega, zq3, by rw [hVl, zqw, show k = 498 by omega]⟩⟩)
        · skip
          refine z_aload_n E dX6_undo_29 0 rfl rfl ?_
          refine z_get E (ci := 6) (N := 16) (C := RX6) (T := TX6) (rfl : vl 16 0 = true) rfl rfl iX6 0 (by decide) rfl f1 rfl dX6_undo_30 ?_
          refine z_iload_n E dX6_undo_33 1 rfl rfl ?_
          refine z_aload_n E dX6_undo_34 0 rfl rfl ?_
          refine z_get E (ci := 6) (N := 16) (C := RX6) (T := TX6) (rfl : vl 16 0 = true) rfl rfl iX6 1 (by decide) rfl f2 rfl dX6_undo_35 ?_
          refine z_sipush E dX6_undo_38 rfl ?_
          refine z_aload_n E dX6_undo_41 0 rfl rfl ?_
          have hr_7 := hBl_22.g 16 0 3 rfl
          refine z_get E (ci := 6) (N := 16) (C := RX6) (T := TX6) (rfl : vl 16 0 = true) rfl rfl iX6 3 (by decide) rfl f0 rfl dX6_undo_42 ?_
          refine z_imul E dX6_undo_45 ?_
          refine z_iload_n E dX6_undo_46 1 rfl rfl ?_
          refine z_iadd E dX6_undo_47 ?_
          refine z_iald E (rfl : vl 18 0 = true) 1992 rfl (by omega) (by omega) (by omega) dX6_undo_48 ?_
          refine z_iast E (rfl : vl 17 0 = true) 498 (fun _ => rfl) (by omega) (by omega) (by omega) dX6_undo_49 ?_
          obtain ⟨V8, hV8⟩ : ∃ Z : Vt, Z = up Vl_22 17 0 (updI (Vl_22 17 0) k (Vl_22 18 0 ((498 * (Vl_22 16 0 3)) + k))) := ⟨_, rfl⟩
          rw [← hV8]
          have hB8 : BV V8 := hV8 ▸ BV_up hBl_22 (fun hz => by rw [zq3, zqp]; exact hpa _ (by omega) (by omega) (by rw [un_m hk0 (by omega)]; exact fun zqz => hz (Or.inr (Or.inr (Or.inl ⟨rfl, zqz.1, zqz.2⟩)))))
          refine z_iinc E k dX6_undo_50 (L' := [some (.ref (ad G 16 0)), some (.int (iI (k + 1)))]) (Nat.le_of_ble_eq_true rfl) rfl rfl ?_
          refine z_goto E 22 dX6_undo_53 rfl ?_
          exact ih_22 (k + 1) V8 hB8 (by omega) (by omega) (by rw [hV8, zq3, zqp, hVl, up_s, un_s hk0]; exact upup _ _ _ _ _) (by omega)
    exact lp_22_4 ((498 - 0 : Int).toNat + 1) 0 V3 hB3 (by omega) (by omega) (by rw [cpI_0, show V 17 0 = V3 17 0 by rw [zqw]; rfl]; exact up_self.symm) (Nat.lt_succ_self _)
  · skip
    refine z_ldc E (-1000002) f3 rfl dX6_undo_7 ?_
    exact z_iret E dX6_undo_9 (⟨rfl, hB, Or.inl ⟨by omega, rfl, rfl⟩⟩)
