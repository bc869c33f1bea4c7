set_option maxHeartbeats 4000000 in
set_option maxRecDepth 100000 in
theorem kX6_in (l : Launch) (G : Gl) (P : Nat → Nat) (V : Vt) (v : Int) (least : Int) (most : Int) (a1 : inR v) (a2 : inR least) (a3 : inR most) : Met l yX6_in wsX6_in ({ frames := 0, cells := 0, slots := 0, locals := 0 }) (va_Pc [.int (iI v), .int (iI least), .int (iI most)] (Sg G P V)) (Qk G mkI (dt (b2i (least ≤ v ∧ v ≤ most)) P V)) 0 0 (mem G) := by
  refine z_met (cc := cX6_in) (nL := 3) (ret := (some .boolean)) (own := RX6) (by decide +kernel) rfl rfl (Nat.le_of_ble_eq_true rfl) (zz_cat rfl) (L := [some (.int (iI v)), some (.int (iI least)), some (.int (iI most))]) rfl ?_
  intro X E
  refine z_iload_n E dX6_in_0 0 rfl rfl ?_
  refine z_iload_n E dX6_in_1 1 rfl rfl ?_
  refine z_icmp_lt E 14 dX6_in_2 rfl (by omega) (by omega) (fun c_1 => ?_) (fun c_1 => ?_)
  · skip
    refine z_iconst E dX6_in_14 ?_
    exact z_zret E dX6_in_15 (by first | decide | omega) (by first | exact ⟨(b2i_t (by omega)).symm, rfl, rfl⟩ | exact ⟨(b2i_f (by omega)).symm, rfl, rfl⟩ | exact ⟨rfl, rfl, rfl⟩ | (exfalso; omega))
  · skip
    refine z_iload_n E dX6_in_5 0 rfl rfl ?_
    refine z_iload_n E dX6_in_6 2 rfl rfl ?_
    refine z_icmp_gt E 14 dX6_in_7 rfl (by omega) (by omega) (fun c_2 => ?_) (fun c_2 => ?_)
    · skip
      refine z_iconst E dX6_in_14 ?_
      exact z_zret E dX6_in_15 (by first | decide | omega) (by first | exact ⟨(b2i_t (by omega)).symm, rfl, rfl⟩ | exact ⟨(b2i_f (by omega)).symm, rfl, rfl⟩ | exact ⟨rfl, rfl, rfl⟩ | (exfalso; omega))
    · skip
      refine z_iconst E dX6_in_10 ?_
      refine z_goto E 15 dX6_in_11 rfl ?_
      exact z_zret E dX6_in_15 (by first | decide | omega) (by first | exact ⟨(b2i_t (by omega)).symm, rfl, rfl⟩ | exact ⟨(b2i_f (by omega)).symm, rfl, rfl⟩ | exact ⟨rfl, rfl, rfl⟩ | (exfalso; omega))

set_option maxHeartbeats 4000000 in
set_option maxRecDepth 100000 in
theorem kX6_of (l : Launch) (G : Gl) (P : Nat → Nat) (V : Vt) (k : Int) (j : Int) (hB : BV V) (a1 : 0 ≤ k) (a2 : k < 16) (a3 : 0 ≤ j) (a4 : j < 8) : Met l yX6_of wsX6_of ({ frames := 0, cells := 0, slots := 0, locals := 0 }) (va_Pc [.ref (ad G 16 0), .int (iI k), .int (iI j)] (Sg G P V)) (Qk G mkI (dt (mo (V 17 0) k j) P V)) 0 0 (mem G) := by
  refine z_met (cc := cX6_of) (nL := 3) (ret := (some .int)) (own := RX6) (by decide +kernel) rfl rfl (Nat.le_of_ble_eq_true rfl) (zz_cat rfl) (L := [some (.ref (ad G 16 0)), some (.int (iI k)), some (.int (iI j))]) rfl ?_
  intro X E
  have iX6 : ∀ x ∈ wsX60, x ∈ wsX6_of := by decide +kernel
  have f0 : Cond.fieldLink RX6 7 "SharedStatesModel" "s" "[I" ∈ wsX6_of := by decide +kernel
  refine z_aload_n E dX6_of_0 0 rfl rfl ?_
  refine z_get E (ci := 6) (N := 16) (C := RX6) (T := TX6) (rfl : vl 16 0 = true) rfl rfl iX6 0 (by decide) rfl f0 rfl dX6_of_1 ?_
  refine z_bipush E dX6_of_4 rfl ?_
  refine z_bipush E dX6_of_6 rfl ?_
  refine z_iload_n E dX6_of_8 1 rfl rfl ?_
  refine z_imul E dX6_of_9 ?_
  refine z_iadd E dX6_of_10 ?_
  refine z_iload_n E dX6_of_11 2 rfl rfl ?_
  refine z_iadd E dX6_of_12 ?_
  refine z_iald E (rfl : vl 17 0 = true) 498 rfl (by omega) (by omega) (by omega) dX6_of_13 ?_
  have hr_1 := hB.s ((10 + (8 * k)) + j) (by omega)
  exact z_iret E dX6_of_14 (⟨rfl, rfl, rfl⟩)

set_option maxHeartbeats 4000000 in
set_option maxRecDepth 100000 in
theorem kX6_slot (l : Launch) (G : Gl) (P : Nat → Nat) (V : Vt) (x : Int) (hB : BV V) (hm0 : 0 ≤ V 17 0 0) (hm1 : V 17 0 0 ≤ 16) (a1 : inR x) : Met l yX6_slot wsX6_slot ({ frames := 1, cells := 0, slots := 0, locals := 22 }) (va_Pc [.ref (ad G 16 0), .int (iI x)] (Sg G P V)) (Qk G mkI (dt (fO (mS (V 17 0) x)) P V)) 0 0 (mem G) := by
  refine z_met (cc := cX6_slot) (nL := 3) (ret := (some .int)) (own := RX6) (by decide +kernel) rfl rfl (Nat.le_of_ble_eq_true rfl) (zz_cat rfl) (L := [some (.ref (ad G 16 0)), some (.int (iI x)), none]) rfl ?_
  intro X E
  have iX6 : ∀ x ∈ wsX60, x ∈ wsX6_slot := by decide +kernel
  have f0 : Cond.fieldLink RX6 7 "SharedStatesModel" "s" "[I" ∈ wsX6_slot := by decide +kernel
  have f1 : Cond.constant RX6 43 (-1000004) ∈ wsX6_slot := by decide +kernel
  refine z_iconst E dX6_slot_0 ?_
  refine z_istore_n E dX6_slot_1 2 rfl (L' := [some (.ref (ad G 16 0)), some (.int (iI x)), some (.int (iI 0))]) (Nat.le_of_ble_eq_true rfl) rfl ?_
  have lp_2_1 : ∀ (fuel : Nat) (k : Int), (0 ≤ k) → (k ≤ V 17 0 0) → (∀ j, 0 ≤ j → j < k → ¬ mo (V 17 0) j 0 = x) → (V 17 0 0 - k : Int).toNat < fuel → Kz X G P V [some (.ref (ad G 16 0)), some (.int (iI x)), some (.int (iI k))] 2 [] := by
    intro fuel
    induction fuel with
    | zero => intro k hk0 hk1 hla hf_2; exact absurd hf_2 (Nat.not_lt_zero _)
    | succ fuel ih_2 =>
      intro k hk0 hk1 hla hf_2
      refine z_iload_n E dX6_slot_2 2 rfl rfl ?_
      refine z_aload_n E dX6_slot_3 0 rfl rfl ?_
      refine z_get E (ci := 6) (N := 16) (C := RX6) (T := TX6) (rfl : vl 16 0 = true) rfl rfl iX6 0 (by decide) rfl f0 rfl dX6_slot_4 ?_
      refine z_iconst E dX6_slot_7 ?_
      refine z_iald E (rfl : vl 17 0 = true) 498 rfl (by omega) (by omega) (by omega) dX6_slot_8 ?_
      have hr_2 := hB.s 0 (by omega)
      refine z_icmp_ge E 30 dX6_slot_9 rfl (by omega) (by omega) (fun c_3 => ?_) (fun c_3 => ?_)
      · skip
        refine z_ldc E (-1000004) f1 rfl dX6_slot_30 ?_
        exact z_iret E dX6_slot_32 (by
            have hf : mS (V 17 0) x = -1 := fnd_n (fun j h0 h1 => hla j h0 (by omega))
            exact ⟨by rw [hf] <;> rfl, rfl, rfl⟩)
      · skip
        refine z_aload_n E dX6_slot_12 0 rfl rfl ?_
        refine z_iload_n E dX6_slot_13 2 rfl rfl ?_
        refine z_iconst E dX6_slot_14 ?_
        refine z_callV E (ci := 6) (N := 16) (C := RX6) (T := TX6) (n := 2) (st := []) (rfl : vl 16 0 = true) rfl rfl [.int (iI k), .int (iI 0)] (kX6_of l G P V k 0 hB (by omega) (by omega) (by omega) (by omega)) gX6_slot_X6_of rfl ⟨rfl, rfl⟩ (by decide +kernel) ⟨Nat.le_of_ble_eq_true rfl, Nat.le_of_ble_eq_true rfl⟩ rfl rfl (Nat.le_of_ble_eq_true rfl) rfl dX6_slot_15 (z_dtI ?_)
        have h_4a := mo_R hB k 0 (by omega) (by omega)
        have h_m : inR (mo (V 17 0) k 0) := h_4a
        refine z_iload_n E dX6_slot_18 1 rfl rfl ?_
        refine z_icmp_ne E 24 dX6_slot_19 rfl (by omega) (by omega) (fun c_5 => ?_) (fun c_5 => ?_)
        · skip
          refine z_iinc E k dX6_slot_24 (L' := [some (.ref (ad G 16 0)), some (.int (iI x)), some (.int (iI (k + 1)))]) (Nat.le_of_ble_eq_true rfl) rfl rfl ?_
          refine z_goto E 2 dX6_slot_27 rfl ?_
          exact ih_2 (k + 1) (by omega) (by omega) (all_s hla (by assumption)) (by omega)
        · skip
          refine z_iload_n E dX6_slot_22 2 rfl rfl ?_
          exact z_iret E dX6_slot_23 (by
              have hf : mS (V 17 0) x = k := fnd_y (by omega) (by omega) (by assumption) hla
              exact ⟨by rw [hf, fO_t hk0], rfl, rfl⟩)
  exact lp_2_1 ((V 17 0 0 - 0 : Int).toNat + 1) 0 (by omega) (by omega) all_0 (Nat.lt_succ_self _)

set_option maxHeartbeats 4000000 in
set_option maxRecDepth 100000 in
theorem kX6_isState (l : Launch) (G : Gl) (P : Nat → Nat) (V : Vt) (x : Int) (hB : BV V) (hm0 : 0 ≤ V 17 0 0) (hm1 : V 17 0 0 ≤ 16) (a1 : inR x) : Met l yX6_isState wsX6_isState ({ frames := 2, cells := 0, slots := 0, locals := 44 }) (va_Pc [.ref (ad G 16 0), .int (iI x)] (Sg G P V)) (Qk G mkI (dt (b2i (0 ≤ fO (mS (V 17 0) x))) P V)) 0 0 (mem G) := by
  refine z_met (cc := cX6_isState) (nL := 2) (ret := (some .boolean)) (own := RX6) (by decide +kernel) rfl rfl (Nat.le_of_ble_eq_true rfl) (zz_cat rfl) (L := [some (.ref (ad G 16 0)), some (.int (iI x))]) rfl ?_
  intro X E
  refine z_aload_n E dX6_isState_0 0 rfl rfl ?_
  refine z_iload_n E dX6_isState_1 1 rfl rfl ?_
  refine z_callV E (ci := 6) (N := 16) (C := RX6) (T := TX6) (n := 1) (st := []) (rfl : vl 16 0 = true) rfl rfl [.int (iI x)] (kX6_slot l G P V x hB (by omega) (by omega) (by omega)) gX6_isState_X6_slot rfl ⟨rfl, rfl⟩ (by decide +kernel) ⟨Nat.le_of_ble_eq_true rfl, Nat.le_of_ble_eq_true rfl⟩ rfl rfl (Nat.le_of_ble_eq_true rfl) rfl dX6_isState_2 (z_dtI ?_)
  have h_1a := mS_c (V 17 0) x
  have h_q : inR (fO (mS (V 17 0) x)) := by rcases h_1a with z | z <;> omega
  refine z_if_lt E 12 dX6_isState_5 rfl (by omega) (fun c_2 => ?_) (fun c_2 => ?_)
  · skip
    refine z_iconst E dX6_isState_12 ?_
    exact z_zret E dX6_isState_13 (by first | decide | omega) (by first | exact ⟨(b2i_t (by omega)).symm, rfl, rfl⟩ | exact ⟨(b2i_f (by omega)).symm, rfl, rfl⟩)
  · skip
    refine z_iconst E dX6_isState_8 ?_
    refine z_goto E 13 dX6_isState_9 rfl ?_
    exact z_zret E dX6_isState_13 (by first | decide | omega) (by first | exact ⟨(b2i_t (by omega)).symm, rfl, rfl⟩ | exact ⟨(b2i_f (by omega)).symm, rfl, rfl⟩)

set_option maxHeartbeats 4000000 in
set_option maxRecDepth 100000 in
theorem kX6_isBranch (l : Launch) (G : Gl) (P : Nat → Nat) (V : Vt) (b : Int) (hB : BV V) (a1 : inR b) : Met l yX6_isBranch wsX6_isBranch ({ frames := 1, cells := 0, slots := 0, locals := 22 }) (va_Pc [.ref (ad G 16 0), .int (iI b)] (Sg G P V)) (Qk G mkI (dt (b2i (0 ≤ b ∧ b ≤ 3 ∧ 0 ≤ mh (V 17 0) b)) P V)) 0 0 (mem G) := by
  refine z_met (cc := cX6_isBranch) (nL := 2) (ret := (some .boolean)) (own := RX6) (by decide +kernel) rfl rfl (Nat.le_of_ble_eq_true rfl) (zz_cat rfl) (L := [some (.ref (ad G 16 0)), some (.int (iI b))]) rfl ?_
  intro X E
  have iX6 : ∀ x ∈ wsX60, x ∈ wsX6_isBranch := by decide +kernel
  have f0 : Cond.fieldLink RX6 7 "SharedStatesModel" "s" "[I" ∈ wsX6_isBranch := by decide +kernel
  refine z_iload_n E dX6_isBranch_0 1 rfl rfl ?_
  refine z_iconst E dX6_isBranch_1 ?_
  refine z_iconst E dX6_isBranch_2 ?_
  refine z_callS E (n := 3) (st := []) [.int (iI b), .int (iI 0), .int (iI 3)] (kX6_in l G P V b 0 3 (by omega) (by omega) (by omega)) gX6_isBranch_X6_in rfl ⟨rfl, rfl⟩ (by decide +kernel) ⟨Nat.le_of_ble_eq_true rfl, Nat.le_of_ble_eq_true rfl⟩ rfl rfl (Nat.le_of_ble_eq_true rfl) rfl dX6_isBranch_3 (z_dtI ?_)
  refine z_ifeq_b E 25 dX6_isBranch_6 rfl (fun c_2 => ?_) (fun c_2 => ?_)
  · skip
    refine z_iconst E dX6_isBranch_25 ?_
    exact z_zret E dX6_isBranch_26 (by first | decide | omega) (by unfold mh; first | exact ⟨(b2i_t (by omega)).symm, rfl, rfl⟩ | exact ⟨(b2i_f (by omega)).symm, rfl, rfl⟩)
  · skip
    refine z_aload_n E dX6_isBranch_9 0 rfl rfl ?_
    refine z_get E (ci := 6) (N := 16) (C := RX6) (T := TX6) (rfl : vl 16 0 = true) rfl rfl iX6 0 (by decide) rfl f0 rfl dX6_isBranch_10 ?_
    refine z_bipush E dX6_isBranch_13 rfl ?_
    refine z_iload_n E dX6_isBranch_15 1 rfl rfl ?_
    refine z_iadd E dX6_isBranch_16 ?_
    refine z_iald E (rfl : vl 17 0 = true) 498 rfl (by omega) (by omega) (by omega) dX6_isBranch_17 ?_
    have hr_3 := hB.s (6 + b) (by omega)
    refine z_if_lt E 25 dX6_isBranch_18 rfl (by omega) (fun c_4 => ?_) (fun c_4 => ?_)
    · skip
      refine z_iconst E dX6_isBranch_25 ?_
      exact z_zret E dX6_isBranch_26 (by first | decide | omega) (by unfold mh; first | exact ⟨(b2i_t (by omega)).symm, rfl, rfl⟩ | exact ⟨(b2i_f (by omega)).symm, rfl, rfl⟩)
    · skip
      refine z_iconst E dX6_isBranch_21 ?_
      refine z_goto E 26 dX6_isBranch_22 rfl ?_
      exact z_zret E dX6_isBranch_26 (by first | decide | omega) (by unfold mh; first | exact ⟨(b2i_t (by omega)).symm, rfl, rfl⟩ | exact ⟨(b2i_f (by omega)).symm, rfl, rfl⟩)

set_option maxHeartbeats 4000000 in
set_option maxRecDepth 100000 in
theorem kX6_isBlock (l : Launch) (G : Gl) (P : Nat → Nat) (V : Vt) (b : Int) (hB : BV V) (a1 : inR b) : Met l yX6_isBlock wsX6_isBlock ({ frames := 1, cells := 0, slots := 0, locals := 22 }) (va_Pc [.ref (ad G 16 0), .int (iI b)] (Sg G P V)) (Qk G mkI (dt (b2i (0 ≤ b ∧ b ≤ 39 ∧ mf (V 17 0) b = 1)) P V)) 0 0 (mem G) := by
  refine z_met (cc := cX6_isBlock) (nL := 2) (ret := (some .boolean)) (own := RX6) (by decide +kernel) rfl rfl (Nat.le_of_ble_eq_true rfl) (zz_cat rfl) (L := [some (.ref (ad G 16 0)), some (.int (iI b))]) rfl ?_
  intro X E
  have iX6 : ∀ x ∈ wsX60, x ∈ wsX6_isBlock := by decide +kernel
  have f0 : Cond.fieldLink RX6 7 "SharedStatesModel" "s" "[I" ∈ wsX6_isBlock := by decide +kernel
  refine z_iload_n E dX6_isBlock_0 1 rfl rfl ?_
  refine z_iconst E dX6_isBlock_1 ?_
  refine z_bipush E dX6_isBlock_2 rfl ?_
  refine z_callS E (n := 3) (st := []) [.int (iI b), .int (iI 0), .int (iI 39)] (kX6_in l G P V b 0 39 (by omega) (by omega) (by omega)) gX6_isBlock_X6_in rfl ⟨rfl, rfl⟩ (by decide +kernel) ⟨Nat.le_of_ble_eq_true rfl, Nat.le_of_ble_eq_true rfl⟩ rfl rfl (Nat.le_of_ble_eq_true rfl) rfl dX6_isBlock_4 (z_dtI ?_)
  refine z_ifeq_b E 31 dX6_isBlock_7 rfl (fun c_2 => ?_) (fun c_2 => ?_)
  · skip
    refine z_iconst E dX6_isBlock_31 ?_
    exact z_zret E dX6_isBlock_32 (by first | decide | omega) (by unfold mf; first | exact ⟨(b2i_t (by omega)).symm, rfl, rfl⟩ | exact ⟨(b2i_f (by omega)).symm, rfl, rfl⟩)
  · skip
    refine z_aload_n E dX6_isBlock_10 0 rfl rfl ?_
    refine z_get E (ci := 6) (N := 16) (C := RX6) (T := TX6) (rfl : vl 16 0 = true) rfl rfl iX6 0 (by decide) rfl f0 rfl dX6_isBlock_11 ?_
    refine z_sipush E dX6_isBlock_14 rfl ?_
    refine z_bipush E dX6_isBlock_17 rfl ?_
    refine z_iload_n E dX6_isBlock_19 1 rfl rfl ?_
    refine z_imul E dX6_isBlock_20 ?_
    refine z_iadd E dX6_isBlock_21 ?_
    refine z_iald E (rfl : vl 17 0 = true) 498 rfl (by omega) (by omega) (by omega) dX6_isBlock_22 ?_
    have hr_3 := hB.s (138 + (9 * b)) (by omega)
    refine z_iconst E dX6_isBlock_23 ?_
    refine z_icmp_ne E 31 dX6_isBlock_24 rfl (by omega) (by omega) (fun c_4 => ?_) (fun c_4 => ?_)
    · skip
      refine z_iconst E dX6_isBlock_31 ?_
      exact z_zret E dX6_isBlock_32 (by first | decide | omega) (by unfold mf; first | exact ⟨(b2i_t (by omega)).symm, rfl, rfl⟩ | exact ⟨(b2i_f (by omega)).symm, rfl, rfl⟩)
    · skip
      refine z_iconst E dX6_isBlock_27 ?_
      refine z_goto E 32 dX6_isBlock_28 rfl ?_
      exact z_zret E dX6_isBlock_32 (by first | decide | omega) (by unfold mf; first | exact ⟨(b2i_t (by omega)).symm, rfl, rfl⟩ | exact ⟨(b2i_f (by omega)).symm, rfl, rfl⟩)

set_option maxHeartbeats 4000000 in
set_option maxRecDepth 100000 in
theorem kX6_inBlock (l : Launch) (G : Gl) (P : Nat → Nat) (V : Vt) (b : Int) (c : Int) (hB : BV V) (a1 : 0 ≤ b) (a2 : b < 40) (a3 : 0 ≤ c) (a4 : c < 8) : Met l yX6_inBlock wsX6_inBlock ({ frames := 0, cells := 0, slots := 0, locals := 0 }) (va_Pc [.ref (ad G 16 0), .int (iI b), .int (iI c)] (Sg G P V)) (Qk G mkI (dt (mb (V 17 0) b c) P V)) 0 0 (mem G) := by
  refine z_met (cc := cX6_inBlock) (nL := 3) (ret := (some .int)) (own := RX6) (by decide +kernel) rfl rfl (Nat.le_of_ble_eq_true rfl) (zz_cat rfl) (L := [some (.ref (ad G 16 0)), some (.int (iI b)), some (.int (iI c))]) rfl ?_
  intro X E
  have iX6 : ∀ x ∈ wsX60, x ∈ wsX6_inBlock := by decide +kernel
  have f0 : Cond.fieldLink RX6 7 "SharedStatesModel" "s" "[I" ∈ wsX6_inBlock := by decide +kernel
  refine z_aload_n E dX6_inBlock_0 0 rfl rfl ?_
  refine z_get E (ci := 6) (N := 16) (C := RX6) (T := TX6) (rfl : vl 16 0 = true) rfl rfl iX6 0 (by decide) rfl f0 rfl dX6_inBlock_1 ?_
  refine z_sipush E dX6_inBlock_4 rfl ?_
  refine z_bipush E dX6_inBlock_7 rfl ?_
  refine z_iload_n E dX6_inBlock_9 1 rfl rfl ?_
  refine z_imul E dX6_inBlock_10 ?_
  refine z_iadd E dX6_inBlock_11 ?_
  refine z_iconst E dX6_inBlock_12 ?_
  refine z_iadd E dX6_inBlock_13 ?_
  refine z_iload_n E dX6_inBlock_14 2 rfl rfl ?_
  refine z_iadd E dX6_inBlock_15 ?_
  refine z_iald E (rfl : vl 17 0 = true) 498 rfl (by omega) (by omega) (by omega) dX6_inBlock_16 ?_
  have hr_1 := hB.s (((138 + (9 * b)) + 1) + c) (by omega)
  exact z_iret E dX6_inBlock_17 (⟨rfl, rfl, rfl⟩)

set_option maxHeartbeats 4000000 in
set_option maxRecDepth 100000 in
theorem kX6_cellOf (l : Launch) (G : Gl) (P : Nat → Nat) (V : Vt) (k : Int) (c : Int) (hB : BV V) (hm0 : 0 ≤ V 17 0 0) (hm1 : V 17 0 0 ≤ 16) (hmL : ∀ k p, 0 ≤ k → k < 16 → 0 ≤ p → p < 6 → 0 ≤ mo (V 17 0) k (2 + p) ∧ mo (V 17 0) k (2 + p) < 40) (a1 : 0 ≤ k) (a2 : k < 16) (a3 : 0 ≤ c) (a4 : c < 48) : Met l yX6_cellOf wsX6_cellOf ({ frames := 1, cells := 0, slots := 0, locals := 22 }) (va_Pc [.ref (ad G 16 0), .int (iI k), .int (iI c)] (Sg G P V)) (Qk G mkI (dt (mc (V 17 0) k c) P V)) 0 0 (mem G) := by
  refine z_met (cc := cX6_cellOf) (nL := 3) (ret := (some .int)) (own := RX6) (by decide +kernel) rfl rfl (Nat.le_of_ble_eq_true rfl) (zz_cat rfl) (L := [some (.ref (ad G 16 0)), some (.int (iI k)), some (.int (iI c))]) rfl ?_
  intro X E
  refine z_aload_n E dX6_cellOf_0 0 rfl rfl ?_
  refine z_aload_n E dX6_cellOf_1 0 rfl rfl ?_
  refine z_iload_n E dX6_cellOf_2 1 rfl rfl ?_
  refine z_iconst E dX6_cellOf_3 ?_
  refine z_iload_n E dX6_cellOf_4 2 rfl rfl ?_
  refine z_bipush E dX6_cellOf_5 rfl ?_
  refine z_idiv E dX6_cellOf_7 (by omega) (by omega) (by decide) (by decide) ?_
  refine z_iadd E dX6_cellOf_8 ?_
  refine z_callV E (ci := 6) (N := 16) (C := RX6) (T := TX6) (n := 2) (st := [.ref (ad G 16 0)]) (rfl : vl 16 0 = true) rfl rfl [.int (iI k), .int (iI (2 + (c / 8)))] (kX6_of l G P V k (2 + (c / 8)) hB (by omega) (by omega) (by omega) (by omega)) gX6_cellOf_X6_of rfl ⟨rfl, rfl⟩ (by decide +kernel) ⟨Nat.le_of_ble_eq_true rfl, Nat.le_of_ble_eq_true rfl⟩ rfl rfl (Nat.le_of_ble_eq_true rfl) rfl dX6_cellOf_9 (z_dtI ?_)
  have h_1a := mo_R hB k (2 + (c / 8)) (by omega) (by omega)
  have h_z := hmL k (c / 8) a1 a2 (by omega) (by omega)
  refine z_iload_n E dX6_cellOf_12 2 rfl rfl ?_
  refine z_bipush E dX6_cellOf_13 rfl ?_
  refine z_irem E dX6_cellOf_15 (by omega) (by omega) (by decide) (by decide) ?_
  refine z_callV E (ci := 6) (N := 16) (C := RX6) (T := TX6) (n := 2) (st := []) (rfl : vl 16 0 = true) rfl rfl [.int (iI (mo (V 17 0) k (2 + (c / 8)))), .int (iI (c % 8))] (kX6_inBlock l G P V (mo (V 17 0) k (2 + (c / 8))) (c % 8) hB (by omega) (by omega) (by omega) (by omega)) gX6_cellOf_X6_inBlock rfl ⟨rfl, rfl⟩ (by decide +kernel) ⟨Nat.le_of_ble_eq_true rfl, Nat.le_of_ble_eq_true rfl⟩ rfl rfl (Nat.le_of_ble_eq_true rfl) rfl dX6_cellOf_16 (z_dtI ?_)
  have h_2a := mb_R hB (mo (V 17 0) k (2 + (c / 8))) (c % 8) (by omega) (by omega)
  exact z_iret E dX6_cellOf_19 (⟨rfl, rfl, rfl⟩)

set_option maxHeartbeats 4000000 in
set_option maxRecDepth 100000 in
theorem kX6_blocks (l : Launch) (G : Gl) (P : Nat → Nat) (V : Vt) (hB : BV V) : Met l yX6_blocks wsX6_blocks ({ frames := 0, cells := 0, slots := 0, locals := 0 }) (va_Pc [.ref (ad G 16 0)] (Sg G P V)) (Qk G mkI (dt (sm 40 (fun b => mf (V 17 0) b)) P V)) 0 0 (mem G) := by
  refine z_met (cc := cX6_blocks) (nL := 3) (ret := (some .int)) (own := RX6) (by decide +kernel) rfl rfl (Nat.le_of_ble_eq_true rfl) (zz_cat rfl) (L := [some (.ref (ad G 16 0)), none, none]) rfl ?_
  intro X E
  have iX6 : ∀ x ∈ wsX60, x ∈ wsX6_blocks := by decide +kernel
  have f0 : Cond.fieldLink RX6 7 "SharedStatesModel" "s" "[I" ∈ wsX6_blocks := by decide +kernel
  refine z_iconst E dX6_blocks_0 ?_
  refine z_istore_n E dX6_blocks_1 1 rfl (L' := [some (.ref (ad G 16 0)), some (.int (iI 0)), none]) (Nat.le_of_ble_eq_true rfl) rfl ?_
  refine z_iconst E dX6_blocks_2 ?_
  refine z_istore_n E dX6_blocks_3 2 rfl (L' := [some (.ref (ad G 16 0)), some (.int (iI 0)), some (.int (iI 0))]) (Nat.le_of_ble_eq_true rfl) rfl ?_
  have lp_4_1 : ∀ (fuel : Nat) (m : Int) (k : Int), (0 ≤ k) → (k ≤ 40) → (m = sm k (fun b => mf (V 17 0) b)) → (40 - k : Int).toNat < fuel → Kz X G P V [some (.ref (ad G 16 0)), some (.int (iI m)), some (.int (iI k))] 4 [] := by
    intro fuel
    induction fuel with
    | zero => intro m k hk0 hk1 hs hf_4; exact absurd hf_4 (Nat.not_lt_zero _)
    | succ fuel ih_4 =>
      intro m k hk0 hk1 hs hf_4
      refine z_iload_n E dX6_blocks_4 2 rfl rfl ?_
      refine z_bipush E dX6_blocks_5 rfl ?_
      refine z_icmp_ge E 32 dX6_blocks_7 rfl (by omega) (by omega) (fun c_2 => ?_) (fun c_2 => ?_)
      · skip
        refine z_iload_n E dX6_blocks_32 1 rfl rfl ?_
        exact z_iret E dX6_blocks_33 (⟨by rw [hs, show k = 40 by omega], rfl, rfl⟩)
      · skip
        refine z_iload_n E dX6_blocks_10 1 rfl rfl ?_
        refine z_aload_n E dX6_blocks_11 0 rfl rfl ?_
        refine z_get E (ci := 6) (N := 16) (C := RX6) (T := TX6) (rfl : vl 16 0 = true) rfl rfl iX6 0 (by decide) rfl f0 rfl dX6_blocks_12 ?_
        refine z_sipush E dX6_blocks_15 rfl ?_
        refine z_bipush E dX6_blocks_18 rfl ?_
        refine z_iload_n E dX6_blocks_20 2 rfl rfl ?_
        refine z_imul E dX6_blocks_21 ?_
        refine z_iadd E dX6_blocks_22 ?_
        refine z_iald E (rfl : vl 17 0 = true) 498 rfl (by omega) (by omega) (by omega) dX6_blocks_23 ?_
        have hr_3 := hB.s (138 + (9 * k)) (by omega)
        refine z_iadd E dX6_blocks_24 ?_
        refine z_istore_n E dX6_blocks_25 1 rfl (L' := [some (.ref (ad G 16 0)), some (.int (iI (m + (V 17 0 (138 + (9 * k)))))), some (.int (iI k))]) (Nat.le_of_ble_eq_true rfl) rfl ?_
        refine z_iinc E k dX6_blocks_26 (L' := [some (.ref (ad G 16 0)), some (.int (iI (m + (V 17 0 (138 + (9 * k)))))), some (.int (iI (k + 1)))]) (Nat.le_of_ble_eq_true rfl) rfl rfl ?_
        refine z_goto E 4 dX6_blocks_29 rfl ?_
        exact ih_4 (m + (V 17 0 (138 + (9 * k)))) (k + 1) (by omega) (by omega) (by rw [sm_s (by omega), ← hs] <;> rfl) (by omega)
  exact lp_4_1 ((40 - 0 : Int).toNat + 1) 0 0 (by omega) (by omega) (sm_0 (by omega)).symm (Nat.lt_succ_self _)

set_option maxHeartbeats 4000000 in
set_option maxRecDepth 100000 in
theorem kX6_branches (l : Launch) (G : Gl) (P : Nat → Nat) (V : Vt) (hB : BV V) : Met l yX6_branches wsX6_branches ({ frames := 0, cells := 0, slots := 0, locals := 0 }) (va_Pc [.ref (ad G 16 0)] (Sg G P V)) (Qk G mkI (dt (sm 4 (fun b => b2i (0 ≤ mh (V 17 0) b))) P V)) 0 0 (mem G) := by
  refine z_met (cc := cX6_branches) (nL := 3) (ret := (some .int)) (own := RX6) (by decide +kernel) rfl rfl (Nat.le_of_ble_eq_true rfl) (zz_cat rfl) (L := [some (.ref (ad G 16 0)), none, none]) rfl ?_
  intro X E
  have iX6 : ∀ x ∈ wsX60, x ∈ wsX6_branches := by decide +kernel
  have f0 : Cond.fieldLink RX6 7 "SharedStatesModel" "s" "[I" ∈ wsX6_branches := by decide +kernel
  refine z_iconst E dX6_branches_0 ?_
  refine z_istore_n E dX6_branches_1 1 rfl (L' := [some (.ref (ad G 16 0)), some (.int (iI 0)), none]) (Nat.le_of_ble_eq_true rfl) rfl ?_
  refine z_iconst E dX6_branches_2 ?_
  refine z_istore_n E dX6_branches_3 2 rfl (L' := [some (.ref (ad G 16 0)), some (.int (iI 0)), some (.int (iI 0))]) (Nat.le_of_ble_eq_true rfl) rfl ?_
  have lp_4_1 : ∀ (fuel : Nat) (m : Int) (k : Int), (0 ≤ k) → (k ≤ 4) → (m = sm k (fun b => b2i (0 ≤ mh (V 17 0) b))) → (4 - k : Int).toNat < fuel → Kz X G P V [some (.ref (ad G 16 0)), some (.int (iI m)), some (.int (iI k))] 4 [] := by
    intro fuel
    induction fuel with
    | zero => intro m k hk0 hk1 hs hf_4; exact absurd hf_4 (Nat.not_lt_zero _)
    | succ fuel ih_4 =>
      intro m k hk0 hk1 hs hf_4
      refine z_iload_n E dX6_branches_4 2 rfl rfl ?_
      refine z_iconst E dX6_branches_5 ?_
      refine z_icmp_ge E 35 dX6_branches_6 rfl (by omega) (by omega) (fun c_2 => ?_) (fun c_2 => ?_)
      · skip
        refine z_iload_n E dX6_branches_35 1 rfl rfl ?_
        exact z_iret E dX6_branches_36 (⟨by rw [hs, show k = 4 by omega], rfl, rfl⟩)
      · skip
        refine z_iload_n E dX6_branches_9 1 rfl rfl ?_
        refine z_aload_n E dX6_branches_10 0 rfl rfl ?_
        refine z_get E (ci := 6) (N := 16) (C := RX6) (T := TX6) (rfl : vl 16 0 = true) rfl rfl iX6 0 (by decide) rfl f0 rfl dX6_branches_11 ?_
        refine z_bipush E dX6_branches_14 rfl ?_
        refine z_iload_n E dX6_branches_16 2 rfl rfl ?_
        refine z_iadd E dX6_branches_17 ?_
        refine z_iald E (rfl : vl 17 0 = true) 498 rfl (by omega) (by omega) (by omega) dX6_branches_18 ?_
        have hr_3 := hB.s (6 + k) (by omega)
        refine z_if_lt E 26 dX6_branches_19 rfl (by omega) (fun c_4 => ?_) (fun c_4 => ?_)
        · skip
          refine z_iconst E dX6_branches_26 ?_
          refine z_iadd E dX6_branches_27 ?_
          refine z_istore_n E dX6_branches_28 1 rfl (L' := [some (.ref (ad G 16 0)), some (.int (iI (m + 0))), some (.int (iI k))]) (Nat.le_of_ble_eq_true rfl) rfl ?_
          refine z_iinc E k dX6_branches_29 (L' := [some (.ref (ad G 16 0)), some (.int (iI (m + 0))), some (.int (iI (k + 1)))]) (Nat.le_of_ble_eq_true rfl) rfl rfl ?_
          refine z_goto E 4 dX6_branches_32 rfl ?_
          exact ih_4 (m + 0) (k + 1) (by omega) (by omega) (by first | exact smb_t hs (by omega) (by assumption) | exact smb_f hs (by omega) (by unfold mh; omega)) (by omega)
        · skip
          refine z_iconst E dX6_branches_22 ?_
          refine z_goto E 27 dX6_branches_23 rfl ?_
          refine z_iadd E dX6_branches_27 ?_
          refine z_istore_n E dX6_branches_28 1 rfl (L' := [some (.ref (ad G 16 0)), some (.int (iI (m + 1))), some (.int (iI k))]) (Nat.le_of_ble_eq_true rfl) rfl ?_
          refine z_iinc E k dX6_branches_29 (L' := [some (.ref (ad G 16 0)), some (.int (iI (m + 1))), some (.int (iI (k + 1)))]) (Nat.le_of_ble_eq_true rfl) rfl rfl ?_
          refine z_goto E 4 dX6_branches_32 rfl ?_
          exact ih_4 (m + 1) (k + 1) (by omega) (by omega) (by first | exact smb_t hs (by omega) (by assumption) | exact smb_f hs (by omega) (by unfold mh; omega)) (by omega)
  exact lp_4_1 ((4 - 0 : Int).toNat + 1) 0 0 (by omega) (by omega) (sm_0 (by omega)).symm (Nat.lt_succ_self _)

set_option maxHeartbeats 4000000 in
set_option maxRecDepth 100000 in
theorem kX6_areLike (l : Launch) (G : Gl) (P : Nat → Nat) (V : Vt) (b : Int) (o : Int) (hB : BV V) (a1 : 0 ≤ b) (a2 : b < 40) (a3 : 0 ≤ o) (a4 : o < 40) : Met l yX6_areLike wsX6_areLike ({ frames := 1, cells := 0, slots := 0, locals := 22 }) (va_Pc [.ref (ad G 16 0), .int (iI b), .int (iI o)] (Sg G P V)) (Qk G mkI (dt (b2i (∀ c, 0 ≤ c → c < 8 → mb (V 17 0) b c = mb (V 17 0) o c)) P V)) 0 0 (mem G) := by
  refine z_met (cc := cX6_areLike) (nL := 5) (ret := (some .boolean)) (own := RX6) (by decide +kernel) rfl rfl (Nat.le_of_ble_eq_true rfl) (zz_cat rfl) (L := [some (.ref (ad G 16 0)), some (.int (iI b)), some (.int (iI o)), none, none]) rfl ?_
  intro X E
  refine z_iconst E dX6_areLike_0 ?_
  refine z_istore_n E dX6_areLike_1 3 rfl (L' := [some (.ref (ad G 16 0)), some (.int (iI b)), some (.int (iI o)), some (.int (iI 1)), none]) (Nat.le_of_ble_eq_true rfl) rfl ?_
  refine z_iconst E dX6_areLike_2 ?_
  refine z_istore E dX6_areLike_3 (L' := [some (.ref (ad G 16 0)), some (.int (iI b)), some (.int (iI o)), some (.int (iI 1)), some (.int (iI 0))]) (Nat.le_of_ble_eq_true rfl) rfl ?_
  have lp_5_1 : ∀ (fuel : Nat) (a : Int) (k : Int), (0 ≤ k) → (k ≤ 8) → (a = b2i (∀ c, 0 ≤ c → c < k → mb (V 17 0) b c = mb (V 17 0) o c)) → (8 - k : Int).toNat < fuel → Kz X G P V [some (.ref (ad G 16 0)), some (.int (iI b)), some (.int (iI o)), some (.int (iI a)), some (.int (iI k))] 5 [] := by
    intro fuel
    induction fuel with
    | zero => intro a k hk0 hk1 ha hf_5; exact absurd hf_5 (Nat.not_lt_zero _)
    | succ fuel ih_5 =>
      intro a k hk0 hk1 ha hf_5
      have hab := b2i_b (∀ c, 0 ≤ c → c < k → mb (V 17 0) b c = mb (V 17 0) o c)
      rw [← ha] at hab
      refine z_iload E dX6_areLike_5 rfl ?_
      refine z_bipush E dX6_areLike_7 rfl ?_
      refine z_icmp_ge E 45 dX6_areLike_9 rfl (by omega) (by omega) (fun c_2 => ?_) (fun c_2 => ?_)
      · skip
        refine z_iload_n E dX6_areLike_45 3 rfl rfl ?_
        exact z_zret E dX6_areLike_46 (by first | decide | omega) (⟨by rw [ha, show k = 8 by omega], rfl, rfl⟩)
      · skip
        refine z_iload_n E dX6_areLike_12 3 rfl rfl ?_
        refine z_if_eq E 37 dX6_areLike_13 rfl (by omega) (fun c_3 => ?_) (fun c_3 => ?_)
        · skip
          refine z_iconst E dX6_areLike_37 ?_
          refine z_istore_n E dX6_areLike_38 3 rfl (L' := [some (.ref (ad G 16 0)), some (.int (iI b)), some (.int (iI o)), some (.int (iI 0)), some (.int (iI k))]) (Nat.le_of_ble_eq_true rfl) rfl ?_
          refine z_iinc E k dX6_areLike_39 (L' := [some (.ref (ad G 16 0)), some (.int (iI b)), some (.int (iI o)), some (.int (iI 0)), some (.int (iI (k + 1)))]) (Nat.le_of_ble_eq_true rfl) rfl rfl ?_
          refine z_goto E 5 dX6_areLike_42 rfl ?_
          exact ih_5 0 (k + 1) (by omega) (by omega) (by first | exact ba_1 ha (by assumption) (by assumption) | exact ba_0a ha (by assumption) | exact ba_0p (by omega) (by assumption) | (exfalso; omega)) (by omega)
        · skip
          refine z_aload_n E dX6_areLike_16 0 rfl rfl ?_
          refine z_iload_n E dX6_areLike_17 1 rfl rfl ?_
          refine z_iload E dX6_areLike_18 rfl ?_
          refine z_callV E (ci := 6) (N := 16) (C := RX6) (T := TX6) (n := 2) (st := []) (rfl : vl 16 0 = true) rfl rfl [.int (iI b), .int (iI k)] (kX6_inBlock l G P V b k hB (by omega) (by omega) (by omega) (by omega)) gX6_areLike_X6_inBlock rfl ⟨rfl, rfl⟩ (by decide +kernel) ⟨Nat.le_of_ble_eq_true rfl, Nat.le_of_ble_eq_true rfl⟩ rfl rfl (Nat.le_of_ble_eq_true rfl) rfl dX6_areLike_20 (z_dtI ?_)
          have h_4a := mb_R hB b k (by omega) (by omega)
          refine z_aload_n E dX6_areLike_23 0 rfl rfl ?_
          refine z_iload_n E dX6_areLike_24 2 rfl rfl ?_
          refine z_iload E dX6_areLike_25 rfl ?_
          refine z_callV E (ci := 6) (N := 16) (C := RX6) (T := TX6) (n := 2) (st := [.int (iI (mb (V 17 0) b k))]) (rfl : vl 16 0 = true) rfl rfl [.int (iI o), .int (iI k)] (kX6_inBlock l G P V o k hB (by omega) (by omega) (by omega) (by omega)) gX6_areLike_X6_inBlock rfl ⟨rfl, rfl⟩ (by decide +kernel) ⟨Nat.le_of_ble_eq_true rfl, Nat.le_of_ble_eq_true rfl⟩ rfl rfl (Nat.le_of_ble_eq_true rfl) rfl dX6_areLike_27 (z_dtI ?_)
          have h_5a := mb_R hB o k (by omega) (by omega)
          refine z_icmp_ne E 37 dX6_areLike_30 rfl (by omega) (by omega) (fun c_6 => ?_) (fun c_6 => ?_)
          · skip
            refine z_iconst E dX6_areLike_37 ?_
            refine z_istore_n E dX6_areLike_38 3 rfl (L' := [some (.ref (ad G 16 0)), some (.int (iI b)), some (.int (iI o)), some (.int (iI 0)), some (.int (iI k))]) (Nat.le_of_ble_eq_true rfl) rfl ?_
            refine z_iinc E k dX6_areLike_39 (L' := [some (.ref (ad G 16 0)), some (.int (iI b)), some (.int (iI o)), some (.int (iI 0)), some (.int (iI (k + 1)))]) (Nat.le_of_ble_eq_true rfl) rfl rfl ?_
            refine z_goto E 5 dX6_areLike_42 rfl ?_
            exact ih_5 0 (k + 1) (by omega) (by omega) (by first | exact ba_1 ha (by assumption) (by assumption) | exact ba_0a ha (by assumption) | exact ba_0p (by omega) (by assumption) | (exfalso; omega)) (by omega)
          · skip
            refine z_iconst E dX6_areLike_33 ?_
            refine z_goto E 38 dX6_areLike_34 rfl ?_
            refine z_istore_n E dX6_areLike_38 3 rfl (L' := [some (.ref (ad G 16 0)), some (.int (iI b)), some (.int (iI o)), some (.int (iI 1)), some (.int (iI k))]) (Nat.le_of_ble_eq_true rfl) rfl ?_
            refine z_iinc E k dX6_areLike_39 (L' := [some (.ref (ad G 16 0)), some (.int (iI b)), some (.int (iI o)), some (.int (iI 1)), some (.int (iI (k + 1)))]) (Nat.le_of_ble_eq_true rfl) rfl rfl ?_
            refine z_goto E 5 dX6_areLike_42 rfl ?_
            exact ih_5 1 (k + 1) (by omega) (by omega) (by first | exact ba_1 ha (by assumption) (by assumption) | exact ba_0a ha (by assumption) | exact ba_0p (by omega) (by assumption) | (exfalso; omega)) (by omega)
  exact lp_5_1 ((8 - 0 : Int).toNat + 1) 1 0 (by omega) (by omega) ba_i (Nat.lt_succ_self _)

set_option maxHeartbeats 4000000 in
set_option maxRecDepth 100000 in
theorem kX6_placesWith (l : Launch) (G : Gl) (P : Nat → Nat) (V : Vt) (b : Int) (hB : BV V) (hm0 : 0 ≤ V 17 0 0) (hm1 : V 17 0 0 ≤ 16) (hmL : ∀ k p, 0 ≤ k → k < 16 → 0 ≤ p → p < 6 → 0 ≤ mo (V 17 0) k (2 + p) ∧ mo (V 17 0) k (2 + p) < 40) (a1 : inR b) : Met l yX6_placesWith wsX6_placesWith ({ frames := 1, cells := 0, slots := 0, locals := 22 }) (va_Pc [.ref (ad G 16 0), .int (iI b)] (Sg G P V)) (Qk G mkI (dt (pwM (V 17 0) b) P V)) 0 0 (mem G) := by
  refine z_met (cc := cX6_placesWith) (nL := 5) (ret := (some .int)) (own := RX6) (by decide +kernel) rfl rfl (Nat.le_of_ble_eq_true rfl) (zz_cat rfl) (L := [some (.ref (ad G 16 0)), some (.int (iI b)), none, none, none]) rfl ?_
  intro X E
  have iX6 : ∀ x ∈ wsX60, x ∈ wsX6_placesWith := by decide +kernel
  have f0 : Cond.fieldLink RX6 7 "SharedStatesModel" "s" "[I" ∈ wsX6_placesWith := by decide +kernel
  refine z_iconst E dX6_placesWith_0 ?_
  refine z_istore_n E dX6_placesWith_1 2 rfl (L' := [some (.ref (ad G 16 0)), some (.int (iI b)), some (.int (iI 0)), none, none]) (Nat.le_of_ble_eq_true rfl) rfl ?_
  refine z_iconst E dX6_placesWith_2 ?_
  refine z_istore_n E dX6_placesWith_3 3 rfl (L' := [some (.ref (ad G 16 0)), some (.int (iI b)), some (.int (iI 0)), some (.int (iI 0)), none]) (Nat.le_of_ble_eq_true rfl) rfl ?_
  have lp_4_1 : ∀ (fuel : Nat) (m : Int) (k : Int), (0 ≤ k) → (k ≤ V 17 0 0) → (m = sm k (fun k => sm 6 (fun p => b2i (mo (V 17 0) k (2 + p) = b)))) → (V 17 0 0 - k : Int).toNat < fuel → Kz X G P V [some (.ref (ad G 16 0)), some (.int (iI b)), some (.int (iI m)), some (.int (iI k)), none] 4 [] := by
    intro fuel
    induction fuel with
    | zero => intro m k hk0 hk1 hs hf_4; exact absurd hf_4 (Nat.not_lt_zero _)
    | succ fuel ih_4 =>
      intro m k hk0 hk1 hs hf_4
      refine z_iload_n E dX6_placesWith_4 3 rfl rfl ?_
      refine z_aload_n E dX6_placesWith_5 0 rfl rfl ?_
      refine z_get E (ci := 6) (N := 16) (C := RX6) (T := TX6) (rfl : vl 16 0 = true) rfl rfl iX6 0 (by decide) rfl f0 rfl dX6_placesWith_6 ?_
      refine z_iconst E dX6_placesWith_9 ?_
      refine z_iald E (rfl : vl 17 0 = true) 498 rfl (by omega) (by omega) (by omega) dX6_placesWith_10 ?_
      have hr_2 := hB.s 0 (by omega)
      refine z_icmp_ge E 57 dX6_placesWith_11 rfl (by omega) (by omega) (fun c_3 => ?_) (fun c_3 => ?_)
      · skip
        refine z_iload_n E dX6_placesWith_57 2 rfl rfl ?_
        exact z_iret E dX6_placesWith_58 (⟨by unfold pwM; rw [hs, show k = V 17 0 0 by omega], rfl, rfl⟩)
      · skip
        refine z_iconst E dX6_placesWith_14 ?_
        refine z_istore E dX6_placesWith_15 (L' := [some (.ref (ad G 16 0)), some (.int (iI b)), some (.int (iI m)), some (.int (iI k)), some (.int (iI 0))]) (Nat.le_of_ble_eq_true rfl) rfl ?_
        have lp_17_4 : ∀ (fuel : Nat) (m2 : Int) (p : Int), (0 ≤ p) → (p ≤ 6) → (m2 = m + sm p (fun p => b2i (mo (V 17 0) k (2 + p) = b))) → (6 - p : Int).toNat < fuel → Kz X G P V [some (.ref (ad G 16 0)), some (.int (iI b)), some (.int (iI m2)), some (.int (iI k)), some (.int (iI p))] 17 [] := by
          intro fuel
          induction fuel with
          | zero => intro m2 p hp0 hp1 ht hf_17; exact absurd hf_17 (Nat.not_lt_zero _)
          | succ fuel ih_17 =>
            intro m2 p hp0 hp1 ht hf_17
            refine z_iload E dX6_placesWith_17 rfl ?_
            refine z_bipush E dX6_placesWith_19 rfl ?_
            refine z_icmp_ge E 51 dX6_placesWith_21 rfl (by omega) (by omega) (fun c_5 => ?_) (fun c_5 => ?_)
            · skip
              refine z_iinc E k dX6_placesWith_51 (L' := [some (.ref (ad G 16 0)), some (.int (iI b)), some (.int (iI m2)), some (.int (iI (k + 1))), some (.int (iI p))]) (Nat.le_of_ble_eq_true rfl) rfl rfl ?_
              refine z_goto E 4 dX6_placesWith_54 rfl ?_
              refine Kz.drop 4 (L' := [some (.ref (ad G 16 0)), some (.int (iI b)), some (.int (iI m2)), some (.int (iI (k + 1))), none]) rfl ?_
              exact ih_4 m2 (k + 1) (by omega) (by omega) (by rw [ht, show p = 6 by omega, sm_s (by omega), ← hs]) (by omega)
            · skip
              refine z_iload_n E dX6_placesWith_24 2 rfl rfl ?_
              refine z_aload_n E dX6_placesWith_25 0 rfl rfl ?_
              refine z_iload_n E dX6_placesWith_26 3 rfl rfl ?_
              refine z_iconst E dX6_placesWith_27 ?_
              refine z_iload E dX6_placesWith_28 rfl ?_
              refine z_iadd E dX6_placesWith_30 ?_
              refine z_callV E (ci := 6) (N := 16) (C := RX6) (T := TX6) (n := 2) (st := [.int (iI m2)]) (rfl : vl 16 0 = true) rfl rfl [.int (iI k), .int (iI (2 + p))] (kX6_of l G P V k (2 + p) hB (by omega) (by omega) (by omega) (by omega)) gX6_placesWith_X6_of rfl ⟨rfl, rfl⟩ (by decide +kernel) ⟨Nat.le_of_ble_eq_true rfl, Nat.le_of_ble_eq_true rfl⟩ rfl rfl (Nat.le_of_ble_eq_true rfl) rfl dX6_placesWith_31 (z_dtI ?_)
              have h_6a := mo_R hB k (2 + p) (by omega) (by omega)
              refine z_iload_n E dX6_placesWith_34 1 rfl rfl ?_
              refine z_icmp_ne E 42 dX6_placesWith_35 rfl (by omega) (by omega) (fun c_7 => ?_) (fun c_7 => ?_)
              · skip
                refine z_iconst E dX6_placesWith_42 ?_
                refine z_iadd E dX6_placesWith_43 ?_
                refine z_istore_n E dX6_placesWith_44 2 rfl (L' := [some (.ref (ad G 16 0)), some (.int (iI b)), some (.int (iI (m2 + 0))), some (.int (iI k)), some (.int (iI p))]) (Nat.le_of_ble_eq_true rfl) rfl ?_
                refine z_iinc E p dX6_placesWith_45 (L' := [some (.ref (ad G 16 0)), some (.int (iI b)), some (.int (iI (m2 + 0))), some (.int (iI k)), some (.int (iI (p + 1)))]) (Nat.le_of_ble_eq_true rfl) rfl rfl ?_
                refine z_goto E 17 dX6_placesWith_48 rfl ?_
                exact ih_17 (m2 + 0) (p + 1) (by omega) (by omega) (by rw [sm_s (by omega)]; first | (rw [b2i_t (by assumption)]; omega) | (rw [b2i_f (by assumption)]; omega)) (by omega)
              · skip
                refine z_iconst E dX6_placesWith_38 ?_
                refine z_goto E 43 dX6_placesWith_39 rfl ?_
                refine z_iadd E dX6_placesWith_43 ?_
                refine z_istore_n E dX6_placesWith_44 2 rfl (L' := [some (.ref (ad G 16 0)), some (.int (iI b)), some (.int (iI (m2 + 1))), some (.int (iI k)), some (.int (iI p))]) (Nat.le_of_ble_eq_true rfl) rfl ?_
                refine z_iinc E p dX6_placesWith_45 (L' := [some (.ref (ad G 16 0)), some (.int (iI b)), some (.int (iI (m2 + 1))), some (.int (iI k)), some (.int (iI (p + 1)))]) (Nat.le_of_ble_eq_true rfl) rfl rfl ?_
                refine z_goto E 17 dX6_placesWith_48 rfl ?_
                exact ih_17 (m2 + 1) (p + 1) (by omega) (by omega) (by rw [sm_s (by omega)]; first | (rw [b2i_t (by assumption)]; omega) | (rw [b2i_f (by assumption)]; omega)) (by omega)
        exact lp_17_4 ((6 - 0 : Int).toNat + 1) m 0 (by omega) (by omega) (by rw [sm_0 (by omega)]; omega) (Nat.lt_succ_self _)
  exact lp_4_1 ((V 17 0 0 - 0 : Int).toNat + 1) 0 0 (by omega) (by omega) (sm_0 (by omega)).symm (Nat.lt_succ_self _)

set_option maxHeartbeats 4000000 in
set_option maxRecDepth 100000 in
theorem kX6_has (l : Launch) (G : Gl) (P : Nat → Nat) (V : Vt) (k : Int) (b : Int) (hB : BV V) (hm0 : 0 ≤ V 17 0 0) (hm1 : V 17 0 0 ≤ 16) (hmL : ∀ k p, 0 ≤ k → k < 16 → 0 ≤ p → p < 6 → 0 ≤ mo (V 17 0) k (2 + p) ∧ mo (V 17 0) k (2 + p) < 40) (a1 : 0 ≤ k) (a2 : k < 16) (a3 : inR b) : Met l yX6_has wsX6_has ({ frames := 1, cells := 0, slots := 0, locals := 22 }) (va_Pc [.ref (ad G 16 0), .int (iI k), .int (iI b)] (Sg G P V)) (Qk G mkI (dt (b2i (∃ p, 0 ≤ p ∧ p < 6 ∧ mo (V 17 0) k (2 + p) = b)) P V)) 0 0 (mem G) := by
  refine z_met (cc := cX6_has) (nL := 5) (ret := (some .boolean)) (own := RX6) (by decide +kernel) rfl rfl (Nat.le_of_ble_eq_true rfl) (zz_cat rfl) (L := [some (.ref (ad G 16 0)), some (.int (iI k)), some (.int (iI b)), none, none]) rfl ?_
  intro X E
  refine z_iconst E dX6_has_0 ?_
  refine z_istore_n E dX6_has_1 3 rfl (L' := [some (.ref (ad G 16 0)), some (.int (iI k)), some (.int (iI b)), some (.int (iI 0)), none]) (Nat.le_of_ble_eq_true rfl) rfl ?_
  refine z_iconst E dX6_has_2 ?_
  refine z_istore E dX6_has_3 (L' := [some (.ref (ad G 16 0)), some (.int (iI k)), some (.int (iI b)), some (.int (iI 0)), some (.int (iI 0))]) (Nat.le_of_ble_eq_true rfl) rfl ?_
  have lp_5_1 : ∀ (fuel : Nat) (a : Int) (p : Int), (0 ≤ p) → (p ≤ 6) → (a = b2i (∃ q, 0 ≤ q ∧ q < p ∧ mo (V 17 0) k (2 + q) = b)) → (6 - p : Int).toNat < fuel → Kz X G P V [some (.ref (ad G 16 0)), some (.int (iI k)), some (.int (iI b)), some (.int (iI a)), some (.int (iI p))] 5 [] := by
    intro fuel
    induction fuel with
    | zero => intro a p hk0 hk1 ha hf_5; exact absurd hf_5 (Nat.not_lt_zero _)
    | succ fuel ih_5 =>
      intro a p hk0 hk1 ha hf_5
      have hab := b2i_b (∃ q, 0 ≤ q ∧ q < p ∧ mo (V 17 0) k (2 + q) = b)
      rw [← ha] at hab
      refine z_iload E dX6_has_5 rfl ?_
      refine z_bipush E dX6_has_7 rfl ?_
      refine z_icmp_ge E 41 dX6_has_9 rfl (by omega) (by omega) (fun c_2 => ?_) (fun c_2 => ?_)
      · skip
        refine z_iload_n E dX6_has_41 3 rfl rfl ?_
        exact z_zret E dX6_has_42 (by first | decide | omega) (⟨by rw [ha, show p = 6 by omega], rfl, rfl⟩)
      · skip
        refine z_iload_n E dX6_has_12 3 rfl rfl ?_
        refine z_if_ne E 29 dX6_has_13 rfl (by omega) (fun c_3 => ?_) (fun c_3 => ?_)
        · skip
          refine z_iconst E dX6_has_29 ?_
          refine z_goto E 34 dX6_has_30 rfl ?_
          refine z_istore_n E dX6_has_34 3 rfl (L' := [some (.ref (ad G 16 0)), some (.int (iI k)), some (.int (iI b)), some (.int (iI 1)), some (.int (iI p))]) (Nat.le_of_ble_eq_true rfl) rfl ?_
          refine z_iinc E p dX6_has_35 (L' := [some (.ref (ad G 16 0)), some (.int (iI k)), some (.int (iI b)), some (.int (iI 1)), some (.int (iI (p + 1)))]) (Nat.le_of_ble_eq_true rfl) rfl rfl ?_
          refine z_goto E 5 dX6_has_38 rfl ?_
          exact ih_5 1 (p + 1) (by omega) (by omega) (by first | exact be_1a ha (by assumption) | exact be_1p (by omega) (by assumption) | exact be_0 ha (by assumption) (by assumption) | (exfalso; omega)) (by omega)
        · skip
          refine z_aload_n E dX6_has_16 0 rfl rfl ?_
          refine z_iload_n E dX6_has_17 1 rfl rfl ?_
          refine z_iconst E dX6_has_18 ?_
          refine z_iload E dX6_has_19 rfl ?_
          refine z_iadd E dX6_has_21 ?_
          refine z_callV E (ci := 6) (N := 16) (C := RX6) (T := TX6) (n := 2) (st := []) (rfl : vl 16 0 = true) rfl rfl [.int (iI k), .int (iI (2 + p))] (kX6_of l G P V k (2 + p) hB (by omega) (by omega) (by omega) (by omega)) gX6_has_X6_of rfl ⟨rfl, rfl⟩ (by decide +kernel) ⟨Nat.le_of_ble_eq_true rfl, Nat.le_of_ble_eq_true rfl⟩ rfl rfl (Nat.le_of_ble_eq_true rfl) rfl dX6_has_22 (z_dtI ?_)
          have h_4a := mo_R hB k (2 + p) (by omega) (by omega)
          refine z_iload_n E dX6_has_25 2 rfl rfl ?_
          refine z_icmp_ne E 33 dX6_has_26 rfl (by omega) (by omega) (fun c_5 => ?_) (fun c_5 => ?_)
          · skip
            refine z_iconst E dX6_has_33 ?_
            refine z_istore_n E dX6_has_34 3 rfl (L' := [some (.ref (ad G 16 0)), some (.int (iI k)), some (.int (iI b)), some (.int (iI 0)), some (.int (iI p))]) (Nat.le_of_ble_eq_true rfl) rfl ?_
            refine z_iinc E p dX6_has_35 (L' := [some (.ref (ad G 16 0)), some (.int (iI k)), some (.int (iI b)), some (.int (iI 0)), some (.int (iI (p + 1)))]) (Nat.le_of_ble_eq_true rfl) rfl rfl ?_
            refine z_goto E 5 dX6_has_38 rfl ?_
            exact ih_5 0 (p + 1) (by omega) (by omega) (by first | exact be_1a ha (by assumption) | exact be_1p (by omega) (by assumption) | exact be_0 ha (by assumption) (by assumption) | (exfalso; omega)) (by omega)
          · skip
            refine z_iconst E dX6_has_29 ?_
            refine z_goto E 34 dX6_has_30 rfl ?_
            refine z_istore_n E dX6_has_34 3 rfl (L' := [some (.ref (ad G 16 0)), some (.int (iI k)), some (.int (iI b)), some (.int (iI 1)), some (.int (iI p))]) (Nat.le_of_ble_eq_true rfl) rfl ?_
            refine z_iinc E p dX6_has_35 (L' := [some (.ref (ad G 16 0)), some (.int (iI k)), some (.int (iI b)), some (.int (iI 1)), some (.int (iI (p + 1)))]) (Nat.le_of_ble_eq_true rfl) rfl rfl ?_
            refine z_goto E 5 dX6_has_38 rfl ?_
            exact ih_5 1 (p + 1) (by omega) (by omega) (by first | exact be_1a ha (by assumption) | exact be_1p (by omega) (by assumption) | exact be_0 ha (by assumption) (by assumption) | (exfalso; omega)) (by omega)
  exact lp_5_1 ((6 - 0 : Int).toNat + 1) 0 0 (by omega) (by omega) be_i (Nat.lt_succ_self _)

set_option maxHeartbeats 4000000 in
set_option maxRecDepth 100000 in
theorem kX6_statesWith (l : Launch) (G : Gl) (P : Nat → Nat) (V : Vt) (b : Int) (hB : BV V) (hm0 : 0 ≤ V 17 0 0) (hm1 : V 17 0 0 ≤ 16) (hmL : ∀ k p, 0 ≤ k → k < 16 → 0 ≤ p → p < 6 → 0 ≤ mo (V 17 0) k (2 + p) ∧ mo (V 17 0) k (2 + p) < 40) (a1 : inR b) : Met l yX6_statesWith wsX6_statesWith ({ frames := 2, cells := 0, slots := 0, locals := 46 }) (va_Pc [.ref (ad G 16 0), .int (iI b)] (Sg G P V)) (Qk G mkI (dt (sm (V 17 0 0) (fun jj => b2i (∃ qq, 0 ≤ qq ∧ qq < 6 ∧ mo (V 17 0) jj (2 + qq) = b))) P V)) 0 0 (mem G) := by
  refine z_met (cc := cX6_statesWith) (nL := 4) (ret := (some .int)) (own := RX6) (by decide +kernel) rfl rfl (Nat.le_of_ble_eq_true rfl) (zz_cat rfl) (L := [some (.ref (ad G 16 0)), some (.int (iI b)), none, none]) rfl ?_
  intro X E
  have iX6 : ∀ x ∈ wsX60, x ∈ wsX6_statesWith := by decide +kernel
  have f0 : Cond.fieldLink RX6 7 "SharedStatesModel" "s" "[I" ∈ wsX6_statesWith := by decide +kernel
  refine z_iconst E dX6_statesWith_0 ?_
  refine z_istore_n E dX6_statesWith_1 2 rfl (L' := [some (.ref (ad G 16 0)), some (.int (iI b)), some (.int (iI 0)), none]) (Nat.le_of_ble_eq_true rfl) rfl ?_
  refine z_iconst E dX6_statesWith_2 ?_
  refine z_istore_n E dX6_statesWith_3 3 rfl (L' := [some (.ref (ad G 16 0)), some (.int (iI b)), some (.int (iI 0)), some (.int (iI 0))]) (Nat.le_of_ble_eq_true rfl) rfl ?_
  have lp_4_1 : ∀ (fuel : Nat) (m : Int) (k : Int), (0 ≤ k) → (k ≤ V 17 0 0) → (m = sm k (fun k => b2i (∃ p, 0 ≤ p ∧ p < 6 ∧ mo (V 17 0) k (2 + p) = b))) → (V 17 0 0 - k : Int).toNat < fuel → Kz X G P V [some (.ref (ad G 16 0)), some (.int (iI b)), some (.int (iI m)), some (.int (iI k))] 4 [] := by
    intro fuel
    induction fuel with
    | zero => intro m k hk0 hk1 hs hf_4; exact absurd hf_4 (Nat.not_lt_zero _)
    | succ fuel ih_4 =>
      intro m k hk0 hk1 hs hf_4
      refine z_iload_n E dX6_statesWith_4 3 rfl rfl ?_
      refine z_aload_n E dX6_statesWith_5 0 rfl rfl ?_
      refine z_get E (ci := 6) (N := 16) (C := RX6) (T := TX6) (rfl : vl 16 0 = true) rfl rfl iX6 0 (by decide) rfl f0 rfl dX6_statesWith_6 ?_
      refine z_iconst E dX6_statesWith_9 ?_
      refine z_iald E (rfl : vl 17 0 = true) 498 rfl (by omega) (by omega) (by omega) dX6_statesWith_10 ?_
      have hr_2 := hB.s 0 (by omega)
      refine z_icmp_ge E 37 dX6_statesWith_11 rfl (by omega) (by omega) (fun c_3 => ?_) (fun c_3 => ?_)
      · skip
        refine z_iload_n E dX6_statesWith_37 2 rfl rfl ?_
        exact z_iret E dX6_statesWith_38 (⟨by rw [hs, show k = V 17 0 0 by omega], rfl, rfl⟩)
      · skip
        refine z_iload_n E dX6_statesWith_14 2 rfl rfl ?_
        refine z_aload_n E dX6_statesWith_15 0 rfl rfl ?_
        refine z_iload_n E dX6_statesWith_16 3 rfl rfl ?_
        refine z_iload_n E dX6_statesWith_17 1 rfl rfl ?_
        refine z_callV E (ci := 6) (N := 16) (C := RX6) (T := TX6) (n := 2) (st := [.int (iI m)]) (rfl : vl 16 0 = true) rfl rfl [.int (iI k), .int (iI b)] (kX6_has l G P V k b hB (by omega) (by omega) hmL (by omega) (by omega) (by omega)) gX6_statesWith_X6_has rfl ⟨rfl, rfl⟩ (by decide +kernel) ⟨Nat.le_of_ble_eq_true rfl, Nat.le_of_ble_eq_true rfl⟩ rfl rfl (Nat.le_of_ble_eq_true rfl) rfl dX6_statesWith_18 (z_dtI ?_)
        refine z_ifeq_b E 28 dX6_statesWith_21 rfl (fun c_5 => ?_) (fun c_5 => ?_)
        · skip
          refine z_iconst E dX6_statesWith_28 ?_
          refine z_iadd E dX6_statesWith_29 ?_
          refine z_istore_n E dX6_statesWith_30 2 rfl (L' := [some (.ref (ad G 16 0)), some (.int (iI b)), some (.int (iI (m + 0))), some (.int (iI k))]) (Nat.le_of_ble_eq_true rfl) rfl ?_
          refine z_iinc E k dX6_statesWith_31 (L' := [some (.ref (ad G 16 0)), some (.int (iI b)), some (.int (iI (m + 0))), some (.int (iI (k + 1)))]) (Nat.le_of_ble_eq_true rfl) rfl rfl ?_
          refine z_goto E 4 dX6_statesWith_34 rfl ?_
          exact ih_4 (m + 0) (k + 1) (by omega) (by omega) (by first | exact smb_t hs (by omega) (by first | assumption | omega) | exact smb_f hs (by omega) (by first | assumption | omega) | exact smb_f0 hs (by omega) (by first | assumption | omega)) (by omega)
        · skip
          refine z_iconst E dX6_statesWith_24 ?_
          refine z_goto E 29 dX6_statesWith_25 rfl ?_
          refine z_iadd E dX6_statesWith_29 ?_
          refine z_istore_n E dX6_statesWith_30 2 rfl (L' := [some (.ref (ad G 16 0)), some (.int (iI b)), some (.int (iI (m + 1))), some (.int (iI k))]) (Nat.le_of_ble_eq_true rfl) rfl ?_
          refine z_iinc E k dX6_statesWith_31 (L' := [some (.ref (ad G 16 0)), some (.int (iI b)), some (.int (iI (m + 1))), some (.int (iI (k + 1)))]) (Nat.le_of_ble_eq_true rfl) rfl rfl ?_
          refine z_goto E 4 dX6_statesWith_34 rfl ?_
          exact ih_4 (m + 1) (k + 1) (by omega) (by omega) (by first | exact smb_t hs (by omega) (by first | assumption | omega) | exact smb_f hs (by omega) (by first | assumption | omega) | exact smb_f0 hs (by omega) (by first | assumption | omega)) (by omega)
  exact lp_4_1 ((V 17 0 0 - 0 : Int).toNat + 1) 0 0 (by omega) (by omega) (sm_0 (by omega)).symm (Nat.lt_succ_self _)

set_option maxHeartbeats 4000000 in
set_option maxRecDepth 100000 in
theorem kX6_differs (l : Launch) (G : Gl) (P : Nat → Nat) (V : Vt) (k : Int) (pl : Int) (hB : BV V) (hm0 : 0 ≤ V 17 0 0) (hm1 : V 17 0 0 ≤ 16) (hmL : ∀ k p, 0 ≤ k → k < 16 → 0 ≤ p → p < 6 → 0 ≤ mo (V 17 0) k (2 + p) ∧ mo (V 17 0) k (2 + p) < 40) (a1 : 0 ≤ k) (a2 : k < 16) (a3 : 0 ≤ pl) (a4 : pl < 6) : Met l yX6_differs wsX6_differs ({ frames := 2, cells := 0, slots := 0, locals := 44 }) (va_Pc [.ref (ad G 16 0), .int (iI k), .int (iI pl)] (Sg G P V)) (Qk G mkI (dt (b2i (DFm (V 17 0) (V 21 0) k pl)) P V)) 0 0 (mem G) := by
  refine z_met (cc := cX6_differs) (nL := 5) (ret := (some .boolean)) (own := RX6) (by decide +kernel) rfl rfl (Nat.le_of_ble_eq_true rfl) (zz_cat rfl) (L := [some (.ref (ad G 16 0)), some (.int (iI k)), some (.int (iI pl)), none, none]) rfl ?_
  intro X E
  have iX6 : ∀ x ∈ wsX60, x ∈ wsX6_differs := by decide +kernel
  have f0 : Cond.fieldLink RX6 22 "SharedStatesModel" "cells" "[I" ∈ wsX6_differs := by decide +kernel
  refine z_iconst E dX6_differs_0 ?_
  refine z_istore_n E dX6_differs_1 3 rfl (L' := [some (.ref (ad G 16 0)), some (.int (iI k)), some (.int (iI pl)), some (.int (iI 0)), none]) (Nat.le_of_ble_eq_true rfl) rfl ?_
  refine z_bipush E dX6_differs_2 rfl ?_
  refine z_iload_n E dX6_differs_4 2 rfl rfl ?_
  refine z_imul E dX6_differs_5 ?_
  refine z_istore E dX6_differs_6 (L' := [some (.ref (ad G 16 0)), some (.int (iI k)), some (.int (iI pl)), some (.int (iI 0)), some (.int (iI (8 * pl)))]) (Nat.le_of_ble_eq_true rfl) rfl ?_
  have lp_8_1 : ∀ (fuel : Nat) (a : Int) (c : Int), (8 * pl ≤ c) → (c ≤ 8 * pl + 8) → (a = b2i (∃ d, 8 * pl ≤ d ∧ d < c ∧ ¬ V 21 0 d = mc (V 17 0) k d)) → (8 * pl + 8 - c : Int).toNat < fuel → Kz X G P V [some (.ref (ad G 16 0)), some (.int (iI k)), some (.int (iI pl)), some (.int (iI a)), some (.int (iI c))] 8 [] := by
    intro fuel
    induction fuel with
    | zero => intro a c hk0 hk1 ha hf_8; exact absurd hf_8 (Nat.not_lt_zero _)
    | succ fuel ih_8 =>
      intro a c hk0 hk1 ha hf_8
      have hab := b2i_b (∃ d, 8 * pl ≤ d ∧ d < c ∧ ¬ V 21 0 d = mc (V 17 0) k d)
      rw [← ha] at hab
      refine z_iload E dX6_differs_8 rfl ?_
      refine z_bipush E dX6_differs_10 rfl ?_
      refine z_iload_n E dX6_differs_12 2 rfl rfl ?_
      refine z_imul E dX6_differs_13 ?_
      refine z_bipush E dX6_differs_14 rfl ?_
      refine z_iadd E dX6_differs_16 ?_
      refine z_icmp_ge E 53 dX6_differs_17 rfl (by omega) (by omega) (fun c_2 => ?_) (fun c_2 => ?_)
      · skip
        refine z_iload_n E dX6_differs_53 3 rfl rfl ?_
        exact z_zret E dX6_differs_54 (by first | decide | omega) (⟨by rw [ha, show c = 8 * pl + 8 by omega] <;> rfl, rfl, rfl⟩)
      · skip
        refine z_iload_n E dX6_differs_20 3 rfl rfl ?_
        refine z_if_ne E 41 dX6_differs_21 rfl (by omega) (fun c_3 => ?_) (fun c_3 => ?_)
        · skip
          refine z_iconst E dX6_differs_41 ?_
          refine z_goto E 46 dX6_differs_42 rfl ?_
          refine z_istore_n E dX6_differs_46 3 rfl (L' := [some (.ref (ad G 16 0)), some (.int (iI k)), some (.int (iI pl)), some (.int (iI 1)), some (.int (iI c))]) (Nat.le_of_ble_eq_true rfl) rfl ?_
          refine z_iinc E c dX6_differs_47 (L' := [some (.ref (ad G 16 0)), some (.int (iI k)), some (.int (iI pl)), some (.int (iI 1)), some (.int (iI (c + 1)))]) (Nat.le_of_ble_eq_true rfl) rfl rfl ?_
          refine z_goto E 8 dX6_differs_50 rfl ?_
          exact ih_8 1 (c + 1) (by omega) (by omega) (by first | exact be_1a ha (by assumption) | exact be_1p (by omega) (by assumption) | exact be_0 ha (by assumption) (fun z => z (by assumption)) | (exfalso; omega)) (by omega)
        · skip
          refine z_aload_n E dX6_differs_24 0 rfl rfl ?_
          refine z_get E (ci := 6) (N := 16) (C := RX6) (T := TX6) (rfl : vl 16 0 = true) rfl rfl iX6 7 (by decide) rfl f0 rfl dX6_differs_25 ?_
          refine z_iload E dX6_differs_28 rfl ?_
          refine z_iald E (rfl : vl 21 0 = true) 48 rfl (by omega) (by omega) (by omega) dX6_differs_30 ?_
          have hr_4 := hB.g 21 0 c rfl
          refine z_aload_n E dX6_differs_31 0 rfl rfl ?_
          refine z_iload_n E dX6_differs_32 1 rfl rfl ?_
          refine z_iload E dX6_differs_33 rfl ?_
          refine z_callV E (ci := 6) (N := 16) (C := RX6) (T := TX6) (n := 2) (st := [.int (iI (V 21 0 c))]) (rfl : vl 16 0 = true) rfl rfl [.int (iI k), .int (iI c)] (kX6_cellOf l G P V k c hB (by omega) (by omega) hmL (by omega) (by omega) (by omega) (by omega)) gX6_differs_X6_cellOf rfl ⟨rfl, rfl⟩ (by decide +kernel) ⟨Nat.le_of_ble_eq_true rfl, Nat.le_of_ble_eq_true rfl⟩ rfl rfl (Nat.le_of_ble_eq_true rfl) rfl dX6_differs_35 (z_dtI ?_)
          have h_5a := mc_R hB hmL k c (by omega) (by omega) (by omega) (by omega)
          refine z_icmp_eq E 45 dX6_differs_38 rfl (by omega) (by omega) (fun c_6 => ?_) (fun c_6 => ?_)
          · skip
            refine z_iconst E dX6_differs_45 ?_
            refine z_istore_n E dX6_differs_46 3 rfl (L' := [some (.ref (ad G 16 0)), some (.int (iI k)), some (.int (iI pl)), some (.int (iI 0)), some (.int (iI c))]) (Nat.le_of_ble_eq_true rfl) rfl ?_
            refine z_iinc E c dX6_differs_47 (L' := [some (.ref (ad G 16 0)), some (.int (iI k)), some (.int (iI pl)), some (.int (iI 0)), some (.int (iI (c + 1)))]) (Nat.le_of_ble_eq_true rfl) rfl rfl ?_
            refine z_goto E 8 dX6_differs_50 rfl ?_
            exact ih_8 0 (c + 1) (by omega) (by omega) (by first | exact be_1a ha (by assumption) | exact be_1p (by omega) (by assumption) | exact be_0 ha (by assumption) (fun z => z (by assumption)) | (exfalso; omega)) (by omega)
          · skip
            refine z_iconst E dX6_differs_41 ?_
            refine z_goto E 46 dX6_differs_42 rfl ?_
            refine z_istore_n E dX6_differs_46 3 rfl (L' := [some (.ref (ad G 16 0)), some (.int (iI k)), some (.int (iI pl)), some (.int (iI 1)), some (.int (iI c))]) (Nat.le_of_ble_eq_true rfl) rfl ?_
            refine z_iinc E c dX6_differs_47 (L' := [some (.ref (ad G 16 0)), some (.int (iI k)), some (.int (iI pl)), some (.int (iI 1)), some (.int (iI (c + 1)))]) (Nat.le_of_ble_eq_true rfl) rfl rfl ?_
            refine z_goto E 8 dX6_differs_50 rfl ?_
            exact ih_8 1 (c + 1) (by omega) (by omega) (by first | exact be_1a ha (by assumption) | exact be_1p (by omega) (by assumption) | exact be_0 ha (by assumption) (fun z => z (by assumption)) | (exfalso; omega)) (by omega)
  exact lp_8_1 ((8 * pl + 8 - (8 * pl) : Int).toNat + 1) 0 (8 * pl) (by omega) (by omega) be_i (Nat.lt_succ_self _)

set_option maxHeartbeats 4000000 in
set_option maxRecDepth 100000 in
theorem kX6_found (l : Launch) (G : Gl) (P : Nat → Nat) (V : Vt) (pl : Int) (hB : BV V) (a3 : 0 ≤ pl) (a4 : pl < 6) : Met l yX6_found wsX6_found ({ frames := 2, cells := 0, slots := 0, locals := 43 }) (va_Pc [.ref (ad G 16 0), .int (iI pl)] (Sg G P V)) (Qk G mkI (dt (fO (FDm (V 17 0) (V 21 0) pl)) P V)) 0 0 (mem G) := by
  refine z_met (cc := cX6_found) (nL := 5) (ret := (some .int)) (own := RX6) (by decide +kernel) rfl rfl (Nat.le_of_ble_eq_true rfl) (zz_cat rfl) (L := [some (.ref (ad G 16 0)), some (.int (iI pl)), none, none, none]) rfl ?_
  intro X E
  have iX6 : ∀ x ∈ wsX60, x ∈ wsX6_found := by decide +kernel
  have f0 : Cond.constant RX6 43 (-1000004) ∈ wsX6_found := by decide +kernel
  have f1 : Cond.fieldLink RX6 22 "SharedStatesModel" "cells" "[I" ∈ wsX6_found := by decide +kernel
  refine z_iconst E dX6_found_0 ?_
  refine z_istore_n E dX6_found_1 2 rfl (L' := [some (.ref (ad G 16 0)), some (.int (iI pl)), some (.int (iI 0)), none, none]) (Nat.le_of_ble_eq_true rfl) rfl ?_
  have lp_2_1 : ∀ (fuel : Nat) (b : Int), (0 ≤ b) → (b ≤ 40) → (∀ d, 0 ≤ d → d < b → ¬ (0 ≤ d ∧ d ≤ 39 ∧ mf (V 17 0) d = 1 ∧ ∀ c, 0 ≤ c → c < 8 → mb (V 17 0) d c = V 21 0 (8 * pl + c))) → (40 - b : Int).toNat < fuel → Kz X G P V [some (.ref (ad G 16 0)), some (.int (iI pl)), some (.int (iI b)), none, none] 2 [] := by
    intro fuel
    induction fuel with
    | zero => intro b hb0 hb1 hla hf_2; exact absurd hf_2 (Nat.not_lt_zero _)
    | succ fuel ih_2 =>
      intro b hb0 hb1 hla hf_2
      refine z_iload_n E dX6_found_2 2 rfl rfl ?_
      refine z_bipush E dX6_found_3 rfl ?_
      refine z_icmp_ge E 74 dX6_found_5 rfl (by omega) (by omega) (fun c_2 => ?_) (fun c_2 => ?_)
      · skip
        refine z_ldc E (-1000004) f0 rfl dX6_found_74 ?_
        exact z_iret E dX6_found_76 (by
            have hf : FDm (V 17 0) (V 21 0) pl = -1 := fnd_n (fun j h0 h1 => hla j h0 (by omega))
            exact ⟨by rw [hf] <;> rfl, rfl, rfl⟩)
      · skip
        refine z_aload_n E dX6_found_8 0 rfl rfl ?_
        refine z_iload_n E dX6_found_9 2 rfl rfl ?_
        refine z_callV E (ci := 6) (N := 16) (C := RX6) (T := TX6) (n := 1) (st := []) (rfl : vl 16 0 = true) rfl rfl [.int (iI b)] (kX6_isBlock l G P V b hB (by omega)) gX6_found_X6_isBlock rfl ⟨rfl, rfl⟩ (by decide +kernel) ⟨Nat.le_of_ble_eq_true rfl, Nat.le_of_ble_eq_true rfl⟩ rfl rfl (Nat.le_of_ble_eq_true rfl) rfl dX6_found_10 (z_dtI ?_)
        refine z_istore_n E dX6_found_13 3 rfl (L' := [some (.ref (ad G 16 0)), some (.int (iI pl)), some (.int (iI b)), some (.int (iI (b2i (0 ≤ b ∧ b ≤ 39 ∧ mf (V 17 0) b = 1)))), none]) (Nat.le_of_ble_eq_true rfl) rfl ?_
        refine z_iconst E dX6_found_14 ?_
        refine z_istore E dX6_found_15 (L' := [some (.ref (ad G 16 0)), some (.int (iI pl)), some (.int (iI b)), some (.int (iI (b2i (0 ≤ b ∧ b ≤ 39 ∧ mf (V 17 0) b = 1)))), some (.int (iI 0))]) (Nat.le_of_ble_eq_true rfl) rfl ?_
        have lp_17_4 : ∀ (fuel : Nat) (a : Int) (c : Int), (0 ≤ c) → (c ≤ 8) → (a = b2i (mf (V 17 0) b = 1 ∧ ∀ d, 0 ≤ d → d < c → mb (V 17 0) b d = V 21 0 (8 * pl + d))) → (8 - c : Int).toNat < fuel → Kz X G P V [some (.ref (ad G 16 0)), some (.int (iI pl)), some (.int (iI b)), some (.int (iI a)), some (.int (iI c))] 17 [] := by
          intro fuel
          induction fuel with
          | zero => intro a c hk0 hk1 ha hf_17; exact absurd hf_17 (Nat.not_lt_zero _)
          | succ fuel ih_17 =>
            intro a c hk0 hk1 ha hf_17
            have hab := b2i_b (mf (V 17 0) b = 1 ∧ ∀ d, 0 ≤ d → d < c → mb (V 17 0) b d = V 21 0 (8 * pl + d))
            rw [← ha] at hab
            refine z_iload E dX6_found_17 rfl ?_
            refine z_bipush E dX6_found_19 rfl ?_
            refine z_icmp_ge E 62 dX6_found_21 rfl (by omega) (by omega) (fun c_5 => ?_) (fun c_5 => ?_)
            · skip
              refine z_iload_n E dX6_found_62 3 rfl rfl ?_
              refine z_if_eq E 68 dX6_found_63 rfl (by omega) (fun c_6 => ?_) (fun c_6 => ?_)
              · skip
                refine z_iinc E b dX6_found_68 (L' := [some (.ref (ad G 16 0)), some (.int (iI pl)), some (.int (iI (b + 1))), some (.int (iI a)), some (.int (iI c))]) (Nat.le_of_ble_eq_true rfl) rfl rfl ?_
                refine z_goto E 2 dX6_found_71 rfl ?_
                refine Kz.drop 3 (L' := [some (.ref (ad G 16 0)), some (.int (iI pl)), some (.int (iI (b + 1))), none, some (.int (iI c))]) rfl ?_
                refine Kz.drop 4 (L' := [some (.ref (ad G 16 0)), some (.int (iI pl)), some (.int (iI (b + 1))), none, none]) rfl ?_
                have hno : ¬ (0 ≤ b ∧ b ≤ 39 ∧ mf (V 17 0) b = 1 ∧ ∀ c, 0 ≤ c → c < 8 → mb (V 17 0) b c = V 21 0 (8 * pl + c)) := fun z => fd_no ha (by assumption) (by omega) z.2.2.1 z.2.2.2
                exact ih_2 (b + 1) (by omega) (by omega) (all_s hla hno) (by omega)
              · skip
                refine z_iload_n E dX6_found_66 2 rfl rfl ?_
                exact z_iret E dX6_found_67 (by
                    have hf : FDm (V 17 0) (V 21 0) pl = b := fnd_y (by omega) (by omega) ⟨by omega, by omega, fd_y ha (by assumption) (by omega)⟩ hla
                    exact ⟨by rw [hf, fO_t hb0], rfl, rfl⟩)
            · skip
              refine z_iload_n E dX6_found_24 3 rfl rfl ?_
              refine z_if_eq E 62 dX6_found_25 rfl (by omega) (fun c_7 => ?_) (fun c_7 => ?_)
              · skip
                refine z_iload_n E dX6_found_62 3 rfl rfl ?_
                refine z_if_eq E 68 dX6_found_63 rfl (by omega) (fun c_8 => ?_) (fun c_8 => ?_)
                · skip
                  refine z_iinc E b dX6_found_68 (L' := [some (.ref (ad G 16 0)), some (.int (iI pl)), some (.int (iI (b + 1))), some (.int (iI a)), some (.int (iI c))]) (Nat.le_of_ble_eq_true rfl) rfl rfl ?_
                  refine z_goto E 2 dX6_found_71 rfl ?_
                  refine Kz.drop 3 (L' := [some (.ref (ad G 16 0)), some (.int (iI pl)), some (.int (iI (b + 1))), none, some (.int (iI c))]) rfl ?_
                  refine Kz.drop 4 (L' := [some (.ref (ad G 16 0)), some (.int (iI pl)), some (.int (iI (b + 1))), none, none]) rfl ?_
                  have hno : ¬ (0 ≤ b ∧ b ≤ 39 ∧ mf (V 17 0) b = 1 ∧ ∀ c, 0 ≤ c → c < 8 → mb (V 17 0) b c = V 21 0 (8 * pl + c)) := fun z => fd_no ha (by assumption) (by omega) z.2.2.1 z.2.2.2
                  exact ih_2 (b + 1) (by omega) (by omega) (all_s hla hno) (by omega)
                · skip
                  refine z_iload_n E dX6_found_66 2 rfl rfl ?_
                  exact z_iret E dX6_found_67 (by
                      have hf : FDm (V 17 0) (V 21 0) pl = b := fnd_y (by omega) (by omega) ⟨by omega, by omega, fd_y ha (by assumption) (by omega)⟩ hla
                      exact ⟨by rw [hf, fO_t hb0], rfl, rfl⟩)
              · skip
                refine z_aload_n E dX6_found_28 0 rfl rfl ?_
                refine z_iload_n E dX6_found_29 2 rfl rfl ?_
                refine z_iload E dX6_found_30 rfl ?_
                refine z_callV E (ci := 6) (N := 16) (C := RX6) (T := TX6) (n := 2) (st := []) (rfl : vl 16 0 = true) rfl rfl [.int (iI b), .int (iI c)] (kX6_inBlock l G P V b c hB (by omega) (by omega) (by omega) (by omega)) gX6_found_X6_inBlock rfl ⟨rfl, rfl⟩ (by decide +kernel) ⟨Nat.le_of_ble_eq_true rfl, Nat.le_of_ble_eq_true rfl⟩ rfl rfl (Nat.le_of_ble_eq_true rfl) rfl dX6_found_32 (z_dtI ?_)
                have h_9a := mb_R hB b c (by omega) (by omega)
                refine z_aload_n E dX6_found_35 0 rfl rfl ?_
                refine z_get E (ci := 6) (N := 16) (C := RX6) (T := TX6) (rfl : vl 16 0 = true) rfl rfl iX6 7 (by decide) rfl f1 rfl dX6_found_36 ?_
                refine z_bipush E dX6_found_39 rfl ?_
                refine z_iload_n E dX6_found_41 1 rfl rfl ?_
                refine z_imul E dX6_found_42 ?_
                refine z_iload E dX6_found_43 rfl ?_
                refine z_iadd E dX6_found_45 ?_
                refine z_iald E (rfl : vl 21 0 = true) 48 rfl (by omega) (by omega) (by omega) dX6_found_46 ?_
                have hr_10 := hB.g 21 0 ((8 * pl) + c) rfl
                refine z_icmp_ne E 54 dX6_found_47 rfl (by omega) (by omega) (fun c_11 => ?_) (fun c_11 => ?_)
                · skip
                  refine z_iconst E dX6_found_54 ?_
                  refine z_istore_n E dX6_found_55 3 rfl (L' := [some (.ref (ad G 16 0)), some (.int (iI pl)), some (.int (iI b)), some (.int (iI 0)), some (.int (iI c))]) (Nat.le_of_ble_eq_true rfl) rfl ?_
                  refine z_iinc E c dX6_found_56 (L' := [some (.ref (ad G 16 0)), some (.int (iI pl)), some (.int (iI b)), some (.int (iI 0)), some (.int (iI (c + 1)))]) (Nat.le_of_ble_eq_true rfl) rfl rfl ?_
                  refine z_goto E 17 dX6_found_59 rfl ?_
                  exact ih_17 0 (c + 1) (by omega) (by omega) (by first | exact fd_1 ha (by assumption) (by assumption) | exact fd_0 (by omega) (by assumption)) (by omega)
                · skip
                  refine z_iconst E dX6_found_50 ?_
                  refine z_goto E 55 dX6_found_51 rfl ?_
                  refine z_istore_n E dX6_found_55 3 rfl (L' := [some (.ref (ad G 16 0)), some (.int (iI pl)), some (.int (iI b)), some (.int (iI 1)), some (.int (iI c))]) (Nat.le_of_ble_eq_true rfl) rfl ?_
                  refine z_iinc E c dX6_found_56 (L' := [some (.ref (ad G 16 0)), some (.int (iI pl)), some (.int (iI b)), some (.int (iI 1)), some (.int (iI (c + 1)))]) (Nat.le_of_ble_eq_true rfl) rfl rfl ?_
                  refine z_goto E 17 dX6_found_59 rfl ?_
                  exact ih_17 1 (c + 1) (by omega) (by omega) (by first | exact fd_1 ha (by assumption) (by assumption) | exact fd_0 (by omega) (by assumption)) (by omega)
        exact lp_17_4 ((8 - 0 : Int).toNat + 1) (b2i (0 ≤ b ∧ b ≤ 39 ∧ mf (V 17 0) b = 1)) 0 (by omega) (by omega) (b2i_iff ⟨fun z => ⟨z.2.2, fun d h0 h1 => by omega⟩, fun z => ⟨by omega, by omega, z.1⟩⟩) (Nat.lt_succ_self _)
  exact lp_2_1 ((40 - 0 : Int).toNat + 1) 0 (by omega) (by omega) all_0 (Nat.lt_succ_self _)

set_option maxHeartbeats 4000000 in
set_option maxRecDepth 100000 in
theorem kX6_areSame (l : Launch) (G : Gl) (P : Nat → Nat) (V : Vt) (p : Int) (q : Int) (hB : BV V) (a1 : 0 ≤ p) (a2 : p < 6) (a3 : 0 ≤ q) (a4 : q < 6) : Met l yX6_areSame wsX6_areSame ({ frames := 0, cells := 0, slots := 0, locals := 0 }) (va_Pc [.ref (ad G 16 0), .int (iI p), .int (iI q)] (Sg G P V)) (Qk G mkI (dt (b2i (SMm (V 21 0) p q)) P V)) 0 0 (mem G) := by
  refine z_met (cc := cX6_areSame) (nL := 5) (ret := (some .boolean)) (own := RX6) (by decide +kernel) rfl rfl (Nat.le_of_ble_eq_true rfl) (zz_cat rfl) (L := [some (.ref (ad G 16 0)), some (.int (iI p)), some (.int (iI q)), none, none]) rfl ?_
  intro X E
  have iX6 : ∀ x ∈ wsX60, x ∈ wsX6_areSame := by decide +kernel
  have f0 : Cond.fieldLink RX6 22 "SharedStatesModel" "cells" "[I" ∈ wsX6_areSame := by decide +kernel
  refine z_iconst E dX6_areSame_0 ?_
  refine z_istore_n E dX6_areSame_1 3 rfl (L' := [some (.ref (ad G 16 0)), some (.int (iI p)), some (.int (iI q)), some (.int (iI 1)), none]) (Nat.le_of_ble_eq_true rfl) rfl ?_
  refine z_iconst E dX6_areSame_2 ?_
  refine z_istore E dX6_areSame_3 (L' := [some (.ref (ad G 16 0)), some (.int (iI p)), some (.int (iI q)), some (.int (iI 1)), some (.int (iI 0))]) (Nat.le_of_ble_eq_true rfl) rfl ?_
  have lp_5_1 : ∀ (fuel : Nat) (a : Int) (k : Int), (0 ≤ k) → (k ≤ 8) → (a = b2i (∀ c, 0 ≤ c → c < k → V 21 0 (8 * p + c) = V 21 0 (8 * q + c))) → (8 - k : Int).toNat < fuel → Kz X G P V [some (.ref (ad G 16 0)), some (.int (iI p)), some (.int (iI q)), some (.int (iI a)), some (.int (iI k))] 5 [] := by
    intro fuel
    induction fuel with
    | zero => intro a k hk0 hk1 ha hf_5; exact absurd hf_5 (Nat.not_lt_zero _)
    | succ fuel ih_5 =>
      intro a k hk0 hk1 ha hf_5
      have hab := b2i_b (∀ c, 0 ≤ c → c < k → V 21 0 (8 * p + c) = V 21 0 (8 * q + c))
      rw [← ha] at hab
      refine z_iload E dX6_areSame_5 rfl ?_
      refine z_bipush E dX6_areSame_7 rfl ?_
      refine z_icmp_ge E 55 dX6_areSame_9 rfl (by omega) (by omega) (fun c_2 => ?_) (fun c_2 => ?_)
      · skip
        refine z_iload_n E dX6_areSame_55 3 rfl rfl ?_
        exact z_zret E dX6_areSame_56 (by first | decide | omega) (⟨by rw [ha, show k = 8 by omega] <;> rfl, rfl, rfl⟩)
      · skip
        refine z_iload_n E dX6_areSame_12 3 rfl rfl ?_
        refine z_if_eq E 47 dX6_areSame_13 rfl (by omega) (fun c_3 => ?_) (fun c_3 => ?_)
        · skip
          refine z_iconst E dX6_areSame_47 ?_
          refine z_istore_n E dX6_areSame_48 3 rfl (L' := [some (.ref (ad G 16 0)), some (.int (iI p)), some (.int (iI q)), some (.int (iI 0)), some (.int (iI k))]) (Nat.le_of_ble_eq_true rfl) rfl ?_
          refine z_iinc E k dX6_areSame_49 (L' := [some (.ref (ad G 16 0)), some (.int (iI p)), some (.int (iI q)), some (.int (iI 0)), some (.int (iI (k + 1)))]) (Nat.le_of_ble_eq_true rfl) rfl rfl ?_
          refine z_goto E 5 dX6_areSame_52 rfl ?_
          exact ih_5 0 (k + 1) (by omega) (by omega) (by first | exact ba_1 ha (by assumption) (by assumption) | exact ba_0a ha (by assumption) | exact ba_0p (by omega) (by assumption) | (exfalso; omega)) (by omega)
        · skip
          refine z_aload_n E dX6_areSame_16 0 rfl rfl ?_
          refine z_get E (ci := 6) (N := 16) (C := RX6) (T := TX6) (rfl : vl 16 0 = true) rfl rfl iX6 7 (by decide) rfl f0 rfl dX6_areSame_17 ?_
          refine z_bipush E dX6_areSame_20 rfl ?_
          refine z_iload_n E dX6_areSame_22 1 rfl rfl ?_
          refine z_imul E dX6_areSame_23 ?_
          refine z_iload E dX6_areSame_24 rfl ?_
          refine z_iadd E dX6_areSame_26 ?_
          refine z_iald E (rfl : vl 21 0 = true) 48 rfl (by omega) (by omega) (by omega) dX6_areSame_27 ?_
          have hr_4 := hB.g 21 0 ((8 * p) + k) rfl
          refine z_aload_n E dX6_areSame_28 0 rfl rfl ?_
          refine z_get E (ci := 6) (N := 16) (C := RX6) (T := TX6) (rfl : vl 16 0 = true) rfl rfl iX6 7 (by decide) rfl f0 rfl dX6_areSame_29 ?_
          refine z_bipush E dX6_areSame_32 rfl ?_
          refine z_iload_n E dX6_areSame_34 2 rfl rfl ?_
          refine z_imul E dX6_areSame_35 ?_
          refine z_iload E dX6_areSame_36 rfl ?_
          refine z_iadd E dX6_areSame_38 ?_
          refine z_iald E (rfl : vl 21 0 = true) 48 rfl (by omega) (by omega) (by omega) dX6_areSame_39 ?_
          have hr_5 := hB.g 21 0 ((8 * q) + k) rfl
          refine z_icmp_ne E 47 dX6_areSame_40 rfl (by omega) (by omega) (fun c_6 => ?_) (fun c_6 => ?_)
          · skip
            refine z_iconst E dX6_areSame_47 ?_
            refine z_istore_n E dX6_areSame_48 3 rfl (L' := [some (.ref (ad G 16 0)), some (.int (iI p)), some (.int (iI q)), some (.int (iI 0)), some (.int (iI k))]) (Nat.le_of_ble_eq_true rfl) rfl ?_
            refine z_iinc E k dX6_areSame_49 (L' := [some (.ref (ad G 16 0)), some (.int (iI p)), some (.int (iI q)), some (.int (iI 0)), some (.int (iI (k + 1)))]) (Nat.le_of_ble_eq_true rfl) rfl rfl ?_
            refine z_goto E 5 dX6_areSame_52 rfl ?_
            exact ih_5 0 (k + 1) (by omega) (by omega) (by first | exact ba_1 ha (by assumption) (by assumption) | exact ba_0a ha (by assumption) | exact ba_0p (by omega) (by assumption) | (exfalso; omega)) (by omega)
          · skip
            refine z_iconst E dX6_areSame_43 ?_
            refine z_goto E 48 dX6_areSame_44 rfl ?_
            refine z_istore_n E dX6_areSame_48 3 rfl (L' := [some (.ref (ad G 16 0)), some (.int (iI p)), some (.int (iI q)), some (.int (iI 1)), some (.int (iI k))]) (Nat.le_of_ble_eq_true rfl) rfl ?_
            refine z_iinc E k dX6_areSame_49 (L' := [some (.ref (ad G 16 0)), some (.int (iI p)), some (.int (iI q)), some (.int (iI 1)), some (.int (iI (k + 1)))]) (Nat.le_of_ble_eq_true rfl) rfl rfl ?_
            refine z_goto E 5 dX6_areSame_52 rfl ?_
            exact ih_5 1 (k + 1) (by omega) (by omega) (by first | exact ba_1 ha (by assumption) (by assumption) | exact ba_0a ha (by assumption) | exact ba_0p (by omega) (by assumption) | (exfalso; omega)) (by omega)
  exact lp_5_1 ((8 - 0 : Int).toNat + 1) 1 0 (by omega) (by omega) ba_i (Nat.lt_succ_self _)
