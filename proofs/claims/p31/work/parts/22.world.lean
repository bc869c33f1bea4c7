set_option maxHeartbeats 4000000 in
set_option maxRecDepth 100000 in
theorem kX4_isBranch (l : Launch) (G : Gl) (P : Nat → Nat) (V : Vt) (w : Nat) (b : Int) (hw : w < 6) (hB : BV V) (h1 : inR b) : Met l yX4_isBranch wsX4_isBranch ({ frames := 1, cells := 0, slots := 0, locals := 21 }) (va_Pc [.ref (ad G 0 w), .int (iI b)] (Sg G P V)) (Qk G mkI (dt (b2i (0 ≤ b ∧ b < 4 ∧ ¬ V 8 w b = -1)) P V)) 0 0 (mem G) := by
  refine z_met (cc := cX4_isBranch) (nL := 2) (ret := (some .boolean)) (own := RX4) (by decide +kernel) rfl rfl (Nat.le_of_ble_eq_true rfl) (L := [some (.ref (ad G 0 w)), some (.int (iI b))]) rfl ?_
  intro X E Er0
  have iX4 : ∀ x ∈ wsX40, x ∈ wsX4_isBranch := by decide +kernel
  have f0 : Cond.static yX5_isIndex ∈ wsX4_isBranch := by decide +kernel
  have f1 : Cond.initialized RX5 ∈ wsX4_isBranch := by decide +kernel
  have f2 : Cond.fieldLink RX4 25 "SharedStates$World" "heads" "[I" ∈ wsX4_isBranch := by decide +kernel
  refine z_iload_n E dX4_isBranch_0 1 rfl rfl ?_
  refine z_iconst E dX4_isBranch_1 ?_
  refine z_callN E (n := 2) (st := []) (host := "SharedStates") [.int (iI b), .int (iI 4)] (fun U h => nst_X4_52 h) f0 f1 (kX5_isIndex l G P V b 4 (by omega) (by omega)) gX4_isBranch_X5_isIndex_n52 rfl ⟨rfl, rfl⟩ (by decide +kernel) ⟨Nat.le_of_ble_eq_true rfl, Nat.le_of_ble_eq_true rfl⟩ rfl rfl (Nat.le_of_ble_eq_true rfl) rfl dX4_isBranch_2 (z_dtI ?_)
  refine z_ifeq_b E 22 dX4_isBranch_5 rfl (fun c_2 => ?_) (fun c_2 => ?_)
  · skip
    refine z_iconst E dX4_isBranch_22 ?_
    exact z_zret E Er0 dX4_isBranch_23 (by first | decide | omega) (by first | exact ⟨(b2i_t (by omega)).symm, rfl, rfl⟩ | exact ⟨(b2i_f (by omega)).symm, rfl, rfl⟩ | exact ⟨rfl, rfl, rfl⟩ | (exfalso; omega))
  · skip
    refine z_aload_n E dX4_isBranch_8 0 rfl rfl ?_
    refine z_get E (ci := 4) (N := 6) (C := RX4) (T := TX4) (vl_w (by decide) hw) rfl rfl iX4 2 (by decide) rfl f2 rfl dX4_isBranch_9 ?_
    refine z_iload_n E dX4_isBranch_12 1 rfl rfl ?_
    refine z_iald E (vl_w (by decide) hw) 4 rfl (by omega) (by omega) (by omega) dX4_isBranch_13 ?_
    have hr_3 := hB.g 8 w b rfl
    refine z_iconst E dX4_isBranch_14 ?_
    refine z_icmp_eq E 22 dX4_isBranch_15 rfl (by omega) (by omega) (fun c_4 => ?_) (fun c_4 => ?_)
    · skip
      refine z_iconst E dX4_isBranch_22 ?_
      exact z_zret E Er0 dX4_isBranch_23 (by first | decide | omega) (by first | exact ⟨(b2i_t (by omega)).symm, rfl, rfl⟩ | exact ⟨(b2i_f (by omega)).symm, rfl, rfl⟩ | exact ⟨rfl, rfl, rfl⟩ | (exfalso; omega))
    · skip
      refine z_iconst E dX4_isBranch_18 ?_
      refine z_goto E 23 dX4_isBranch_19 rfl ?_
      exact z_zret E Er0 dX4_isBranch_23 (by first | decide | omega) (by first | exact ⟨(b2i_t (by omega)).symm, rfl, rfl⟩ | exact ⟨(b2i_f (by omega)).symm, rfl, rfl⟩ | exact ⟨rfl, rfl, rfl⟩ | (exfalso; omega))

set_option maxHeartbeats 4000000 in
set_option maxRecDepth 100000 in
theorem kX4_headSlot (l : Launch) (G : Gl) (P : Nat → Nat) (V : Vt) (w : Nat) (b : Int) (hw : w < 6) (hB : BV V) (hn0 : 0 ≤ V 4 w 3) (hn1 : V 4 w 3 ≤ 16) (h1 : inR b) : Met l yX4_headSlot wsX4_headSlot ({ frames := 2, cells := 0, slots := 0, locals := 42 }) (va_Pc [.ref (ad G 0 w), .int (iI b)] (Sg G P V)) (Qk G mkI (dt (hdS (V 4 w 3) (V 5 w) (V 8 w) b) P V)) 0 0 (mem G) := by
  refine z_met (cc := cX4_headSlot) (nL := 2) (ret := (some .int)) (own := RX4) (by decide +kernel) rfl rfl (Nat.le_of_ble_eq_true rfl) (L := [some (.ref (ad G 0 w)), some (.int (iI b))]) rfl ?_
  intro X E Er0
  have iX4 : ∀ x ∈ wsX40, x ∈ wsX4_headSlot := by decide +kernel
  have f0 : Cond.fieldLink RX4 21 "SharedStates$World" "states" "LSharedStates$States;" ∈ wsX4_headSlot := by decide +kernel
  have f1 : Cond.fieldLink RX4 25 "SharedStates$World" "heads" "[I" ∈ wsX4_headSlot := by decide +kernel
  refine z_aload_n E dX4_headSlot_0 0 rfl rfl ?_
  refine z_iload_n E dX4_headSlot_1 1 rfl rfl ?_
  refine z_callV E (ci := 4) (N := 6) (C := RX4) (T := TX4) (n := 1) (st := []) (vl_w (by decide) hw) rfl rfl [.int (iI b)] (kX4_isBranch l G P V w b hw hB (by omega)) gX4_headSlot_X4_isBranch rfl ⟨rfl, rfl⟩ (by decide +kernel) ⟨Nat.le_of_ble_eq_true rfl, Nat.le_of_ble_eq_true rfl⟩ rfl rfl (Nat.le_of_ble_eq_true rfl) rfl dX4_headSlot_2 (z_dtI ?_)
  refine z_ifeq_b E 24 dX4_headSlot_5 rfl (fun c_2 => ?_) (fun c_2 => ?_)
  · skip
    refine z_iconst E dX4_headSlot_24 ?_
    exact z_iret E Er0 dX4_headSlot_25 (by first | exact ⟨(hdS_t (by omega)).symm, rfl, rfl⟩ | exact ⟨(hdS_f (by omega)).symm, rfl, rfl⟩)
  · skip
    refine z_aload_n E dX4_headSlot_8 0 rfl rfl ?_
    refine z_get E (ci := 4) (N := 6) (C := RX4) (T := TX4) (vl_w (by decide) hw) rfl rfl iX4 1 (by decide) rfl f0 rfl dX4_headSlot_9 ?_
    refine z_aload_n E dX4_headSlot_12 0 rfl rfl ?_
    refine z_get E (ci := 4) (N := 6) (C := RX4) (T := TX4) (vl_w (by decide) hw) rfl rfl iX4 2 (by decide) rfl f1 rfl dX4_headSlot_13 ?_
    refine z_iload_n E dX4_headSlot_16 1 rfl rfl ?_
    refine z_iald E (vl_w (by decide) hw) 4 rfl (by omega) (by omega) (by omega) dX4_headSlot_17 ?_
    have hr_3 := hB.g 8 w b rfl
    refine z_callV E (ci := 3) (N := 5) (C := RX3) (T := TX3) (n := 1) (st := []) (vl_w (by decide) hw) rfl rfl [.int (iI (V 8 w b))] (kX3_slotOf l G P V w (V 8 w b) hw hB (by omega) (by omega) (by omega)) gX4_headSlot_X3_slotOf rfl ⟨rfl, rfl⟩ (by decide +kernel) ⟨Nat.le_of_ble_eq_true rfl, Nat.le_of_ble_eq_true rfl⟩ rfl rfl (Nat.le_of_ble_eq_true rfl) rfl dX4_headSlot_18 (z_dtI ?_)
    have h_4a := fnd_bd (V 4 w 3) (fun k => V 5 w k = (V 8 w b)) (by omega)
    refine z_goto E 25 dX4_headSlot_21 rfl ?_
    exact z_iret E Er0 dX4_headSlot_25 (by first | exact ⟨(hdS_t (by omega)).symm, rfl, rfl⟩ | exact ⟨(hdS_f (by omega)).symm, rfl, rfl⟩)

set_option maxHeartbeats 4000000 in
set_option maxRecDepth 100000 in
theorem kX4_branchesThere (l : Launch) (G : Gl) (P : Nat → Nat) (V : Vt) (w : Nat) (hw : w < 6) (hB : BV V) : Met l yX4_branchesThere wsX4_branchesThere ({ frames := 0, cells := 0, slots := 0, locals := 0 }) (va_Pc [.ref (ad G 0 w)] (Sg G P V)) (Qk G mkI (dt (sm 4 (fun b => b2i (¬ V 8 w b = -1))) P V)) 0 0 (mem G) := by
  refine z_met (cc := cX4_branchesThere) (nL := 3) (ret := (some .int)) (own := RX4) (by decide +kernel) rfl rfl (Nat.le_of_ble_eq_true rfl) (L := [some (.ref (ad G 0 w)), none, none]) rfl ?_
  intro X E Er0
  have iX4 : ∀ x ∈ wsX40, x ∈ wsX4_branchesThere := by decide +kernel
  have f0 : Cond.fieldLink RX4 25 "SharedStates$World" "heads" "[I" ∈ wsX4_branchesThere := by decide +kernel
  refine z_iconst E dX4_branchesThere_0 ?_
  refine z_istore_n E dX4_branchesThere_1 1 rfl (L' := [some (.ref (ad G 0 w)), some (.int (iI 0)), none]) (Nat.le_of_ble_eq_true rfl) rfl ?_
  refine z_iconst E dX4_branchesThere_2 ?_
  refine z_istore_n E dX4_branchesThere_3 2 rfl (L' := [some (.ref (ad G 0 w)), some (.int (iI 0)), some (.int (iI 0))]) (Nat.le_of_ble_eq_true rfl) rfl ?_
  have lp_4_1 : ∀ (fuel : Nat) (m : Int) (k : Int), (0 ≤ k) → (k ≤ 4) → (m = sm k (fun b => b2i (¬ V 8 w b = -1))) → (4 - k : Int).toNat < fuel → Kz X G P V 0 0 [some (.ref (ad G 0 w)), some (.int (iI m)), some (.int (iI k))] 4 [] := by
    intro fuel
    induction fuel with
    | zero => intro m k hk0 hk1 hs hf_4; exact absurd hf_4 (Nat.not_lt_zero _)
    | succ fuel ih_4 =>
      intro m k hk0 hk1 hs hf_4
      refine z_iload_n E dX4_branchesThere_4 2 rfl rfl ?_
      refine z_iconst E dX4_branchesThere_5 ?_
      refine z_icmp_ge E 33 dX4_branchesThere_6 rfl (by omega) (by omega) (fun c_2 => ?_) (fun c_2 => ?_)
      · skip
        refine z_iload_n E dX4_branchesThere_33 1 rfl rfl ?_
        exact z_iret E Er0 dX4_branchesThere_34 (⟨by rw [hs, show k = 4 by omega], rfl, rfl⟩)
      · skip
        refine z_iload_n E dX4_branchesThere_9 1 rfl rfl ?_
        refine z_aload_n E dX4_branchesThere_10 0 rfl rfl ?_
        refine z_get E (ci := 4) (N := 6) (C := RX4) (T := TX4) (vl_w (by decide) hw) rfl rfl iX4 2 (by decide) rfl f0 rfl dX4_branchesThere_11 ?_
        refine z_iload_n E dX4_branchesThere_14 2 rfl rfl ?_
        refine z_iald E (vl_w (by decide) hw) 4 rfl (by omega) (by omega) (by omega) dX4_branchesThere_15 ?_
        have hr_3 := hB.g 8 w k rfl
        refine z_iconst E dX4_branchesThere_16 ?_
        refine z_icmp_eq E 24 dX4_branchesThere_17 rfl (by omega) (by omega) (fun c_4 => ?_) (fun c_4 => ?_)
        · skip
          refine z_iconst E dX4_branchesThere_24 ?_
          refine z_iadd E dX4_branchesThere_25 ?_
          refine z_istore_n E dX4_branchesThere_26 1 rfl (L' := [some (.ref (ad G 0 w)), some (.int (iI (m + 0))), some (.int (iI k))]) (Nat.le_of_ble_eq_true rfl) rfl ?_
          refine z_iinc E k dX4_branchesThere_27 (L' := [some (.ref (ad G 0 w)), some (.int (iI (m + 0))), some (.int (iI (k + 1)))]) (Nat.le_of_ble_eq_true rfl) rfl rfl ?_
          refine z_goto E 4 dX4_branchesThere_30 rfl ?_
          exact ih_4 (m + 0) (k + 1) (by omega) (by omega) (by first | exact smb_t hs (by omega) (by first | assumption | omega) | exact smb_f hs (by omega) (by first | assumption | omega) | exact smb_f0 hs (by omega) (by first | assumption | omega)) (by omega)
        · skip
          refine z_iconst E dX4_branchesThere_20 ?_
          refine z_goto E 25 dX4_branchesThere_21 rfl ?_
          refine z_iadd E dX4_branchesThere_25 ?_
          refine z_istore_n E dX4_branchesThere_26 1 rfl (L' := [some (.ref (ad G 0 w)), some (.int (iI (m + 1))), some (.int (iI k))]) (Nat.le_of_ble_eq_true rfl) rfl ?_
          refine z_iinc E k dX4_branchesThere_27 (L' := [some (.ref (ad G 0 w)), some (.int (iI (m + 1))), some (.int (iI (k + 1)))]) (Nat.le_of_ble_eq_true rfl) rfl rfl ?_
          refine z_goto E 4 dX4_branchesThere_30 rfl ?_
          exact ih_4 (m + 1) (k + 1) (by omega) (by omega) (by first | exact smb_t hs (by omega) (by first | assumption | omega) | exact smb_f hs (by omega) (by first | assumption | omega) | exact smb_f0 hs (by omega) (by first | assumption | omega)) (by omega)
  exact lp_4_1 ((4 - 0 : Int).toNat + 1) 0 0 (by omega) (by omega) (sm_0 (by omega)).symm (Nat.lt_succ_self _)

set_option maxHeartbeats 4000000 in
set_option maxRecDepth 100000 in
theorem kX4_branchesAt (l : Launch) (G : Gl) (P : Nat → Nat) (V : Vt) (w : Nat) (state : Int) (hw : w < 6) (hB : BV V) (h1 : inR state) : Met l yX4_branchesAt wsX4_branchesAt ({ frames := 0, cells := 0, slots := 0, locals := 0 }) (va_Pc [.ref (ad G 0 w), .int (iI state)] (Sg G P V)) (Qk G mkI (dt (bits 4 (fun b => V 8 w b = state)) P V)) 0 0 (mem G) := by
  refine z_met (cc := cX4_branchesAt) (nL := 4) (ret := (some .int)) (own := RX4) (by decide +kernel) rfl rfl (Nat.le_of_ble_eq_true rfl) (L := [some (.ref (ad G 0 w)), some (.int (iI state)), none, none]) rfl ?_
  intro X E Er0
  have iX4 : ∀ x ∈ wsX40, x ∈ wsX4_branchesAt := by decide +kernel
  have f0 : Cond.fieldLink RX4 25 "SharedStates$World" "heads" "[I" ∈ wsX4_branchesAt := by decide +kernel
  refine z_iconst E dX4_branchesAt_0 ?_
  refine z_istore_n E dX4_branchesAt_1 2 rfl (L' := [some (.ref (ad G 0 w)), some (.int (iI state)), some (.int (iI 0)), none]) (Nat.le_of_ble_eq_true rfl) rfl ?_
  refine z_iconst E dX4_branchesAt_2 ?_
  refine z_istore_n E dX4_branchesAt_3 3 rfl (L' := [some (.ref (ad G 0 w)), some (.int (iI state)), some (.int (iI 0)), some (.int (iI 0))]) (Nat.le_of_ble_eq_true rfl) rfl ?_
  have lp_4_1 : ∀ (fuel : Nat) (m : Int) (k : Int), (0 ≤ k) → (k ≤ 4) → (m = bits k (fun b => V 8 w b = state)) → (4 - k : Int).toNat < fuel → Kz X G P V 0 0 [some (.ref (ad G 0 w)), some (.int (iI state)), some (.int (iI m)), some (.int (iI k))] 4 [] := by
    intro fuel
    induction fuel with
    | zero => intro m k hk0 hk1 hs hf_4; exact absurd hf_4 (Nat.not_lt_zero _)
    | succ fuel ih_4 =>
      intro m k hk0 hk1 hs hf_4
      have hsb := bits_bd (fun b => V 8 w b = state) hk0
      rw [← hs] at hsb
      refine z_iload_n E dX4_branchesAt_4 3 rfl rfl ?_
      refine z_iconst E dX4_branchesAt_5 ?_
      refine z_icmp_ge E 31 dX4_branchesAt_6 rfl (by omega) (by omega) (fun c_2 => ?_) (fun c_2 => ?_)
      · skip
        refine z_iload_n E dX4_branchesAt_31 2 rfl rfl ?_
        exact z_iret E Er0 dX4_branchesAt_32 (⟨by rw [hs, show k = 4 by omega], rfl, rfl⟩)
      · skip
        refine z_aload_n E dX4_branchesAt_9 0 rfl rfl ?_
        refine z_get E (ci := 4) (N := 6) (C := RX4) (T := TX4) (vl_w (by decide) hw) rfl rfl iX4 2 (by decide) rfl f0 rfl dX4_branchesAt_10 ?_
        refine z_iload_n E dX4_branchesAt_13 3 rfl rfl ?_
        refine z_iald E (vl_w (by decide) hw) 4 rfl (by omega) (by omega) (by omega) dX4_branchesAt_14 ?_
        have hr_3 := hB.g 8 w k rfl
        refine z_iload_n E dX4_branchesAt_15 1 rfl rfl ?_
        refine z_icmp_ne E 25 dX4_branchesAt_16 rfl (by omega) (by omega) (fun c_4 => ?_) (fun c_4 => ?_)
        · skip
          refine z_iinc E k dX4_branchesAt_25 (L' := [some (.ref (ad G 0 w)), some (.int (iI state)), some (.int (iI m)), some (.int (iI (k + 1)))]) (Nat.le_of_ble_eq_true rfl) rfl rfl ?_
          refine z_goto E 4 dX4_branchesAt_28 rfl ?_
          exact ih_4 m (k + 1) (by omega) (by omega) (by first | exact bits_t hs (by omega) (by assumption) | exact bits_f hs (by omega) (by assumption)) (by omega)
        · skip
          refine z_iload_n E dX4_branchesAt_19 2 rfl rfl ?_
          refine z_iconst E dX4_branchesAt_20 ?_
          refine z_iload_n E dX4_branchesAt_21 3 rfl rfl ?_
          refine z_ishl E dX4_branchesAt_22 (by omega) (by omega) ?_
          refine z_iorS E dX4_branchesAt_23 (by omega) (hsb.1) (hsb.2) ?_
          refine z_istore_n E dX4_branchesAt_24 2 rfl (L' := [some (.ref (ad G 0 w)), some (.int (iI state)), some (.int (iI (m + (2 ^ k.toNat)))), some (.int (iI k))]) (Nat.le_of_ble_eq_true rfl) rfl ?_
          refine z_iinc E k dX4_branchesAt_25 (L' := [some (.ref (ad G 0 w)), some (.int (iI state)), some (.int (iI (m + (2 ^ k.toNat)))), some (.int (iI (k + 1)))]) (Nat.le_of_ble_eq_true rfl) rfl rfl ?_
          refine z_goto E 4 dX4_branchesAt_28 rfl ?_
          exact ih_4 (m + (2 ^ k.toNat)) (k + 1) (by omega) (by omega) (by first | exact bits_t hs (by omega) (by assumption) | exact bits_f hs (by omega) (by assumption)) (by omega)
  exact lp_4_1 ((4 - 0 : Int).toNat + 1) 0 0 (by omega) (by omega) bits_0.symm (Nat.lt_succ_self _)

set_option maxHeartbeats 4000000 in
set_option maxRecDepth 100000 in
theorem kX4_cellAt (l : Launch) (G : Gl) (P : Nat → Nat) (V : Vt) (w : Nat) (slot : Int) (cell : Int) (hw : w < 6) (hB : BV V) (hn0 : 0 ≤ V 4 w 3) (hn1 : V 4 w 3 ≤ 16) (hL : ∀ j, 0 ≤ V 7 w j ∧ V 7 w j < 40) (h1 : 0 ≤ slot) (h2 : slot < V 4 w 3) (h3 : 0 ≤ cell) (h4 : cell < 48) : Met l yX4_cellAt wsX4_cellAt ({ frames := 1, cells := 0, slots := 0, locals := 23 }) (va_Pc [.ref (ad G 0 w), .int (iI slot), .int (iI cell)] (Sg G P V)) (Qk G mkI (dt (cA (V 2 w) (V 7 w) slot cell) P V)) 0 0 (mem G) := by
  refine z_met (cc := cX4_cellAt) (nL := 3) (ret := (some .int)) (own := RX4) (by decide +kernel) rfl rfl (Nat.le_of_ble_eq_true rfl) (L := [some (.ref (ad G 0 w)), some (.int (iI slot)), some (.int (iI cell))]) rfl ?_
  intro X E Er0
  have iX4 : ∀ x ∈ wsX40, x ∈ wsX4_cellAt := by decide +kernel
  have f0 : Cond.fieldLink RX4 12 "SharedStates$World" "blocks" "LSharedStates$Blocks;" ∈ wsX4_cellAt := by decide +kernel
  have f1 : Cond.fieldLink RX4 21 "SharedStates$World" "states" "LSharedStates$States;" ∈ wsX4_cellAt := by decide +kernel
  refine z_aload_n E dX4_cellAt_0 0 rfl rfl ?_
  refine z_get E (ci := 4) (N := 6) (C := RX4) (T := TX4) (vl_w (by decide) hw) rfl rfl iX4 0 (by decide) rfl f0 rfl dX4_cellAt_1 ?_
  refine z_aload_n E dX4_cellAt_4 0 rfl rfl ?_
  refine z_get E (ci := 4) (N := 6) (C := RX4) (T := TX4) (vl_w (by decide) hw) rfl rfl iX4 1 (by decide) rfl f1 rfl dX4_cellAt_5 ?_
  refine z_iload_n E dX4_cellAt_8 1 rfl rfl ?_
  refine z_iload_n E dX4_cellAt_9 2 rfl rfl ?_
  refine z_bipush E dX4_cellAt_10 rfl ?_
  refine z_idiv E dX4_cellAt_12 (by omega) (by omega) (by decide) (by decide) ?_
  refine z_callV E (ci := 3) (N := 5) (C := RX3) (T := TX3) (n := 2) (st := [.ref (ad G 1 w)]) (vl_w (by decide) hw) rfl rfl [.int (iI slot), .int (iI (cell / 8))] (kX3_block l G P V w slot (cell / 8) hw hB (by omega) (by omega) hL (by omega) (by omega) (by omega) (by omega)) gX4_cellAt_X3_block rfl ⟨rfl, rfl⟩ (by decide +kernel) ⟨Nat.le_of_ble_eq_true rfl, Nat.le_of_ble_eq_true rfl⟩ rfl rfl (Nat.le_of_ble_eq_true rfl) rfl dX4_cellAt_13 (z_dtI ?_)
  have h_1a := hL (slot * 6 + (cell / 8))
  refine z_iload_n E dX4_cellAt_16 2 rfl rfl ?_
  refine z_bipush E dX4_cellAt_17 rfl ?_
  refine z_irem E dX4_cellAt_19 (by omega) (by omega) (by decide) (by decide) ?_
  refine z_callV E (ci := 0) (N := 4) (C := RX0) (T := TX0) (n := 2) (st := []) (vl_w (by decide) hw) rfl rfl [.int (iI (V 7 w (slot * 6 + (cell / 8)))), .int (iI (cell % 8))] (kX0_cellOf l G P V w (V 7 w (slot * 6 + (cell / 8))) (cell % 8) hw hB (by omega) (by omega) (by omega) (by omega)) gX4_cellAt_X0_cellOf rfl ⟨rfl, rfl⟩ (by decide +kernel) ⟨Nat.le_of_ble_eq_true rfl, Nat.le_of_ble_eq_true rfl⟩ rfl rfl (Nat.le_of_ble_eq_true rfl) rfl dX4_cellAt_20 (z_dtI ?_)
  exact z_iret E Er0 dX4_cellAt_23 (by first | exact ⟨rfl, rfl, rfl⟩ | exact ⟨by omega, rfl, rfl⟩ | (exfalso; omega))

set_option maxHeartbeats 4000000 in
set_option maxRecDepth 100000 in
theorem kX4_sumOfState (l : Launch) (G : Gl) (P : Nat → Nat) (V : Vt) (w : Nat) (slot : Int) (hw : w < 6) (hB : BV V) (hn0 : 0 ≤ V 4 w 3) (hn1 : V 4 w 3 ≤ 16) (hL : ∀ j, 0 ≤ V 7 w j ∧ V 7 w j < 40) (h1 : 0 ≤ slot) (h2 : slot < V 4 w 3) : Met l yX4_sumOfState wsX4_sumOfState ({ frames := 2, cells := 0, slots := 0, locals := 46 }) (va_Pc [.ref (ad G 0 w), .int (iI slot)] (Sg G P V)) (Qk G mkI (dt (sm 6 (fun p => sm 8 (fun i => V 2 w (V 7 w (slot * 6 + p) * 8 + i)))) P V)) 0 0 (mem G) := by
  refine z_met (cc := cX4_sumOfState) (nL := 4) (ret := (some .int)) (own := RX4) (by decide +kernel) rfl rfl (Nat.le_of_ble_eq_true rfl) (L := [some (.ref (ad G 0 w)), some (.int (iI slot)), none, none]) rfl ?_
  intro X E Er0
  have iX4 : ∀ x ∈ wsX40, x ∈ wsX4_sumOfState := by decide +kernel
  have f0 : Cond.fieldLink RX4 12 "SharedStates$World" "blocks" "LSharedStates$Blocks;" ∈ wsX4_sumOfState := by decide +kernel
  have f1 : Cond.fieldLink RX4 21 "SharedStates$World" "states" "LSharedStates$States;" ∈ wsX4_sumOfState := by decide +kernel
  refine z_iconst E dX4_sumOfState_0 ?_
  refine z_istore_n E dX4_sumOfState_1 2 rfl (L' := [some (.ref (ad G 0 w)), some (.int (iI slot)), some (.int (iI 0)), none]) (Nat.le_of_ble_eq_true rfl) rfl ?_
  refine z_iconst E dX4_sumOfState_2 ?_
  refine z_istore_n E dX4_sumOfState_3 3 rfl (L' := [some (.ref (ad G 0 w)), some (.int (iI slot)), some (.int (iI 0)), some (.int (iI 0))]) (Nat.le_of_ble_eq_true rfl) rfl ?_
  have lp_4_1 : ∀ (fuel : Nat) (m : Int) (k : Int), (0 ≤ k) → (k ≤ 6) → (m = sm k (fun p => sm 8 (fun i => V 2 w (V 7 w (slot * 6 + p) * 8 + i)))) → (6 - k : Int).toNat < fuel → Kz X G P V 0 0 [some (.ref (ad G 0 w)), some (.int (iI slot)), some (.int (iI m)), some (.int (iI k))] 4 [] := by
    intro fuel
    induction fuel with
    | zero => intro m k hk0 hk1 hs hf_4; exact absurd hf_4 (Nat.not_lt_zero _)
    | succ fuel ih_4 =>
      intro m k hk0 hk1 hs hf_4
      refine z_iload_n E dX4_sumOfState_4 3 rfl rfl ?_
      refine z_bipush E dX4_sumOfState_5 rfl ?_
      refine z_icmp_ge E 35 dX4_sumOfState_7 rfl (by omega) (by omega) (fun c_2 => ?_) (fun c_2 => ?_)
      · skip
        refine z_iload_n E dX4_sumOfState_35 2 rfl rfl ?_
        exact z_iret E Er0 dX4_sumOfState_36 (⟨by rw [hs, show k = 6 by omega], rfl, rfl⟩)
      · skip
        refine z_iload_n E dX4_sumOfState_10 2 rfl rfl ?_
        refine z_aload_n E dX4_sumOfState_11 0 rfl rfl ?_
        refine z_get E (ci := 4) (N := 6) (C := RX4) (T := TX4) (vl_w (by decide) hw) rfl rfl iX4 0 (by decide) rfl f0 rfl dX4_sumOfState_12 ?_
        refine z_aload_n E dX4_sumOfState_15 0 rfl rfl ?_
        refine z_get E (ci := 4) (N := 6) (C := RX4) (T := TX4) (vl_w (by decide) hw) rfl rfl iX4 1 (by decide) rfl f1 rfl dX4_sumOfState_16 ?_
        refine z_iload_n E dX4_sumOfState_19 1 rfl rfl ?_
        refine z_iload_n E dX4_sumOfState_20 3 rfl rfl ?_
        refine z_callV E (ci := 3) (N := 5) (C := RX3) (T := TX3) (n := 2) (st := [.ref (ad G 1 w), .int (iI m)]) (vl_w (by decide) hw) rfl rfl [.int (iI slot), .int (iI k)] (kX3_block l G P V w slot k hw hB (by omega) (by omega) hL (by omega) (by omega) (by omega) (by omega)) gX4_sumOfState_X3_block rfl ⟨rfl, rfl⟩ (by decide +kernel) ⟨Nat.le_of_ble_eq_true rfl, Nat.le_of_ble_eq_true rfl⟩ rfl rfl (Nat.le_of_ble_eq_true rfl) rfl dX4_sumOfState_21 (z_dtI ?_)
        have h_3a := hL (slot * 6 + k)
        refine z_callV E (ci := 0) (N := 4) (C := RX0) (T := TX0) (n := 1) (st := [.int (iI m)]) (vl_w (by decide) hw) rfl rfl [.int (iI (V 7 w (slot * 6 + k)))] (kX0_sumOf l G P V w (V 7 w (slot * 6 + k)) hw hB (by omega) (by omega)) gX4_sumOfState_X0_sumOf rfl ⟨rfl, rfl⟩ (by decide +kernel) ⟨Nat.le_of_ble_eq_true rfl, Nat.le_of_ble_eq_true rfl⟩ rfl rfl (Nat.le_of_ble_eq_true rfl) rfl dX4_sumOfState_24 (z_dtI ?_)
        refine z_iadd E dX4_sumOfState_27 ?_
        refine z_istore_n E dX4_sumOfState_28 2 rfl (L' := [some (.ref (ad G 0 w)), some (.int (iI slot)), some (.int (iI (m + (sm 8 (fun i => V 2 w ((V 7 w (slot * 6 + k)) * 8 + i)))))), some (.int (iI k))]) (Nat.le_of_ble_eq_true rfl) rfl ?_
        refine z_iinc E k dX4_sumOfState_29 (L' := [some (.ref (ad G 0 w)), some (.int (iI slot)), some (.int (iI (m + (sm 8 (fun i => V 2 w ((V 7 w (slot * 6 + k)) * 8 + i)))))), some (.int (iI (k + 1)))]) (Nat.le_of_ble_eq_true rfl) rfl rfl ?_
        refine z_goto E 4 dX4_sumOfState_32 rfl ?_
        exact ih_4 (m + (sm 8 (fun i => V 2 w ((V 7 w (slot * 6 + k)) * 8 + i)))) (k + 1) (by omega) (by omega) (by rw [sm_s (by omega), ← hs]) (by omega)
  exact lp_4_1 ((6 - 0 : Int).toNat + 1) 0 0 (by omega) (by omega) (sm_0 (by omega)).symm (Nat.lt_succ_self _)

set_option maxHeartbeats 4000000 in
set_option maxRecDepth 100000 in
theorem kX4_isItsOwn (l : Launch) (G : Gl) (P : Nat → Nat) (V : Vt) (w : Nat) (slot : Int) (place : Int) (hw : w < 6) (hB : BV V) (hn0 : 0 ≤ V 4 w 3) (hn1 : V 4 w 3 ≤ 16) (hL : ∀ j, 0 ≤ V 7 w j ∧ V 7 w j < 40) (h1 : 0 ≤ slot) (h2 : slot < V 4 w 3) (h3 : 0 ≤ place) (h4 : place < 6) : Met l yX4_isItsOwn wsX4_isItsOwn ({ frames := 2, cells := 0, slots := 0, locals := 47 }) (va_Pc [.ref (ad G 0 w), .int (iI slot), .int (iI place)] (Sg G P V)) (Qk G mkI (dt (b2i (V 3 w (V 7 w (slot * 6 + place)) = sm 6 (fun p => b2i (V 7 w (slot * 6 + p) = V 7 w (slot * 6 + place))))) P V)) 0 0 (mem G) := by
  refine z_met (cc := cX4_isItsOwn) (nL := 4) (ret := (some .boolean)) (own := RX4) (by decide +kernel) rfl rfl (Nat.le_of_ble_eq_true rfl) (L := [some (.ref (ad G 0 w)), some (.int (iI slot)), some (.int (iI place)), none]) rfl ?_
  intro X E Er0
  have iX4 : ∀ x ∈ wsX40, x ∈ wsX4_isItsOwn := by decide +kernel
  have f0 : Cond.fieldLink RX4 21 "SharedStates$World" "states" "LSharedStates$States;" ∈ wsX4_isItsOwn := by decide +kernel
  have f1 : Cond.fieldLink RX4 12 "SharedStates$World" "blocks" "LSharedStates$Blocks;" ∈ wsX4_isItsOwn := by decide +kernel
  refine z_aload_n E dX4_isItsOwn_0 0 rfl rfl ?_
  refine z_get E (ci := 4) (N := 6) (C := RX4) (T := TX4) (vl_w (by decide) hw) rfl rfl iX4 1 (by decide) rfl f0 rfl dX4_isItsOwn_1 ?_
  refine z_iload_n E dX4_isItsOwn_4 1 rfl rfl ?_
  refine z_iload_n E dX4_isItsOwn_5 2 rfl rfl ?_
  refine z_callV E (ci := 3) (N := 5) (C := RX3) (T := TX3) (n := 2) (st := []) (vl_w (by decide) hw) rfl rfl [.int (iI slot), .int (iI place)] (kX3_block l G P V w slot place hw hB (by omega) (by omega) hL (by omega) (by omega) (by omega) (by omega)) gX4_isItsOwn_X3_block rfl ⟨rfl, rfl⟩ (by decide +kernel) ⟨Nat.le_of_ble_eq_true rfl, Nat.le_of_ble_eq_true rfl⟩ rfl rfl (Nat.le_of_ble_eq_true rfl) rfl dX4_isItsOwn_6 (z_dtI ?_)
  have h_1a := hL (slot * 6 + place)
  refine z_istore_n E dX4_isItsOwn_9 3 rfl (L' := [some (.ref (ad G 0 w)), some (.int (iI slot)), some (.int (iI place)), some (.int (iI (V 7 w (slot * 6 + place))))]) (Nat.le_of_ble_eq_true rfl) rfl ?_
  refine z_aload_n E dX4_isItsOwn_10 0 rfl rfl ?_
  refine z_get E (ci := 4) (N := 6) (C := RX4) (T := TX4) (vl_w (by decide) hw) rfl rfl iX4 0 (by decide) rfl f1 rfl dX4_isItsOwn_11 ?_
  refine z_iload_n E dX4_isItsOwn_14 3 rfl rfl ?_
  refine z_callV E (ci := 0) (N := 4) (C := RX0) (T := TX0) (n := 1) (st := []) (vl_w (by decide) hw) rfl rfl [.int (iI (V 7 w (slot * 6 + place)))] (kX0_usesOf l G P V w (V 7 w (slot * 6 + place)) hw hB (by omega) (by omega)) gX4_isItsOwn_X0_usesOf rfl ⟨rfl, rfl⟩ (by decide +kernel) ⟨Nat.le_of_ble_eq_true rfl, Nat.le_of_ble_eq_true rfl⟩ rfl rfl (Nat.le_of_ble_eq_true rfl) rfl dX4_isItsOwn_15 (z_dtI ?_)
  have hr_u := hB.g 3 w (V 7 w (slot * 6 + place)) rfl
  refine z_aload_n E dX4_isItsOwn_18 0 rfl rfl ?_
  refine z_get E (ci := 4) (N := 6) (C := RX4) (T := TX4) (vl_w (by decide) hw) rfl rfl iX4 1 (by decide) rfl f0 rfl dX4_isItsOwn_19 ?_
  refine z_iload_n E dX4_isItsOwn_22 1 rfl rfl ?_
  refine z_iload_n E dX4_isItsOwn_23 3 rfl rfl ?_
  refine z_callV E (ci := 3) (N := 5) (C := RX3) (T := TX3) (n := 2) (st := [.int (iI (V 3 w (V 7 w (slot * 6 + place))))]) (vl_w (by decide) hw) rfl rfl [.int (iI slot), .int (iI (V 7 w (slot * 6 + place)))] (kX3_placesWith l G P V w slot (V 7 w (slot * 6 + place)) hw hB (by omega) (by omega) hL (by omega) (by omega) (by omega)) gX4_isItsOwn_X3_placesWith rfl ⟨rfl, rfl⟩ (by decide +kernel) ⟨Nat.le_of_ble_eq_true rfl, Nat.le_of_ble_eq_true rfl⟩ rfl rfl (Nat.le_of_ble_eq_true rfl) rfl dX4_isItsOwn_24 (z_dtI ?_)
  have h_3a := sm_b2i_bd (n := 6) (p := fun p => V 7 w (slot * 6 + p) = (V 7 w (slot * 6 + place))) (by omega)
  refine z_icmp_ne E 34 dX4_isItsOwn_27 rfl (by omega) (by omega) (fun c_4 => ?_) (fun c_4 => ?_)
  · skip
    refine z_iconst E dX4_isItsOwn_34 ?_
    exact z_zret E Er0 dX4_isItsOwn_35 (by first | decide | omega) (by first | exact ⟨(b2i_t (by assumption)).symm, rfl, rfl⟩ | exact ⟨(b2i_f (by assumption)).symm, rfl, rfl⟩)
  · skip
    refine z_iconst E dX4_isItsOwn_30 ?_
    refine z_goto E 35 dX4_isItsOwn_31 rfl ?_
    exact z_zret E Er0 dX4_isItsOwn_35 (by first | decide | omega) (by first | exact ⟨(b2i_t (by assumption)).symm, rfl, rfl⟩ | exact ⟨(b2i_f (by assumption)).symm, rfl, rfl⟩)

set_option maxHeartbeats 4000000 in
set_option maxRecDepth 100000 in
theorem kX4_placesOfItsOwn (l : Launch) (G : Gl) (P : Nat → Nat) (V : Vt) (w : Nat) (slot : Int) (hw : w < 6) (hB : BV V) (hn0 : 0 ≤ V 4 w 3) (hn1 : V 4 w 3 ≤ 16) (hL : ∀ j, 0 ≤ V 7 w j ∧ V 7 w j < 40) (h1 : 0 ≤ slot) (h2 : slot < V 4 w 3) : Met l yX4_placesOfItsOwn wsX4_placesOfItsOwn ({ frames := 3, cells := 0, slots := 0, locals := 70 }) (va_Pc [.ref (ad G 0 w), .int (iI slot)] (Sg G P V)) (Qk G mkI (dt (sm 6 (fun q => b2i (V 3 w (V 7 w (slot * 6 + q)) = sm 6 (fun p => b2i (V 7 w (slot * 6 + p) = V 7 w (slot * 6 + q)))))) P V)) 0 0 (mem G) := by
  refine z_met (cc := cX4_placesOfItsOwn) (nL := 4) (ret := (some .int)) (own := RX4) (by decide +kernel) rfl rfl (Nat.le_of_ble_eq_true rfl) (L := [some (.ref (ad G 0 w)), some (.int (iI slot)), none, none]) rfl ?_
  intro X E Er0
  refine z_iconst E dX4_placesOfItsOwn_0 ?_
  refine z_istore_n E dX4_placesOfItsOwn_1 2 rfl (L' := [some (.ref (ad G 0 w)), some (.int (iI slot)), some (.int (iI 0)), none]) (Nat.le_of_ble_eq_true rfl) rfl ?_
  refine z_iconst E dX4_placesOfItsOwn_2 ?_
  refine z_istore_n E dX4_placesOfItsOwn_3 3 rfl (L' := [some (.ref (ad G 0 w)), some (.int (iI slot)), some (.int (iI 0)), some (.int (iI 0))]) (Nat.le_of_ble_eq_true rfl) rfl ?_
  have lp_4_1 : ∀ (fuel : Nat) (m : Int) (k : Int), (0 ≤ k) → (k ≤ 6) → (m = sm k (fun q => b2i (V 3 w (V 7 w (slot * 6 + q)) = sm 6 (fun p => b2i (V 7 w (slot * 6 + p) = V 7 w (slot * 6 + q)))))) → (6 - k : Int).toNat < fuel → Kz X G P V 0 0 [some (.ref (ad G 0 w)), some (.int (iI slot)), some (.int (iI m)), some (.int (iI k))] 4 [] := by
    intro fuel
    induction fuel with
    | zero => intro m k hk0 hk1 hs hf_4; exact absurd hf_4 (Nat.not_lt_zero _)
    | succ fuel ih_4 =>
      intro m k hk0 hk1 hs hf_4
      refine z_iload_n E dX4_placesOfItsOwn_4 3 rfl rfl ?_
      refine z_bipush E dX4_placesOfItsOwn_5 rfl ?_
      refine z_icmp_ge E 33 dX4_placesOfItsOwn_7 rfl (by omega) (by omega) (fun c_2 => ?_) (fun c_2 => ?_)
      · skip
        refine z_iload_n E dX4_placesOfItsOwn_33 2 rfl rfl ?_
        exact z_iret E Er0 dX4_placesOfItsOwn_34 (⟨by rw [hs, show k = 6 by omega], rfl, rfl⟩)
      · skip
        refine z_iload_n E dX4_placesOfItsOwn_10 2 rfl rfl ?_
        refine z_aload_n E dX4_placesOfItsOwn_11 0 rfl rfl ?_
        refine z_iload_n E dX4_placesOfItsOwn_12 1 rfl rfl ?_
        refine z_iload_n E dX4_placesOfItsOwn_13 3 rfl rfl ?_
        refine z_callV E (ci := 4) (N := 6) (C := RX4) (T := TX4) (n := 2) (st := [.int (iI m)]) (vl_w (by decide) hw) rfl rfl [.int (iI slot), .int (iI k)] (kX4_isItsOwn l G P V w slot k hw hB (by omega) (by omega) hL (by omega) (by omega) (by omega) (by omega)) gX4_placesOfItsOwn_X4_isItsOwn rfl ⟨rfl, rfl⟩ (by decide +kernel) ⟨Nat.le_of_ble_eq_true rfl, Nat.le_of_ble_eq_true rfl⟩ rfl rfl (Nat.le_of_ble_eq_true rfl) rfl dX4_placesOfItsOwn_14 (z_dtI ?_)
        refine z_ifeq_b E 24 dX4_placesOfItsOwn_17 rfl (fun c_4 => ?_) (fun c_4 => ?_)
        · skip
          refine z_iconst E dX4_placesOfItsOwn_24 ?_
          refine z_iadd E dX4_placesOfItsOwn_25 ?_
          refine z_istore_n E dX4_placesOfItsOwn_26 2 rfl (L' := [some (.ref (ad G 0 w)), some (.int (iI slot)), some (.int (iI (m + 0))), some (.int (iI k))]) (Nat.le_of_ble_eq_true rfl) rfl ?_
          refine z_iinc E k dX4_placesOfItsOwn_27 (L' := [some (.ref (ad G 0 w)), some (.int (iI slot)), some (.int (iI (m + 0))), some (.int (iI (k + 1)))]) (Nat.le_of_ble_eq_true rfl) rfl rfl ?_
          refine z_goto E 4 dX4_placesOfItsOwn_30 rfl ?_
          exact ih_4 (m + 0) (k + 1) (by omega) (by omega) (by first | exact smb_t hs (by omega) (by first | assumption | omega) | exact smb_f hs (by omega) (by first | assumption | omega) | exact smb_f0 hs (by omega) (by first | assumption | omega)) (by omega)
        · skip
          refine z_iconst E dX4_placesOfItsOwn_20 ?_
          refine z_goto E 25 dX4_placesOfItsOwn_21 rfl ?_
          refine z_iadd E dX4_placesOfItsOwn_25 ?_
          refine z_istore_n E dX4_placesOfItsOwn_26 2 rfl (L' := [some (.ref (ad G 0 w)), some (.int (iI slot)), some (.int (iI (m + 1))), some (.int (iI k))]) (Nat.le_of_ble_eq_true rfl) rfl ?_
          refine z_iinc E k dX4_placesOfItsOwn_27 (L' := [some (.ref (ad G 0 w)), some (.int (iI slot)), some (.int (iI (m + 1))), some (.int (iI (k + 1)))]) (Nat.le_of_ble_eq_true rfl) rfl rfl ?_
          refine z_goto E 4 dX4_placesOfItsOwn_30 rfl ?_
          exact ih_4 (m + 1) (k + 1) (by omega) (by omega) (by first | exact smb_t hs (by omega) (by first | assumption | omega) | exact smb_f hs (by omega) (by first | assumption | omega) | exact smb_f0 hs (by omega) (by first | assumption | omega)) (by omega)
  exact lp_4_1 ((6 - 0 : Int).toNat + 1) 0 0 (by omega) (by omega) (sm_0 (by omega)).symm (Nat.lt_succ_self _)

set_option maxHeartbeats 4000000 in
set_option maxRecDepth 100000 in
theorem kX4_canForget (l : Launch) (G : Gl) (P : Nat → Nat) (V : Vt) (w : Nat) (slot : Int) (hw : w < 6) (hB : BV V) (hn0 : 0 ≤ V 4 w 3) (hn1 : V 4 w 3 ≤ 16) (h1 : 0 ≤ slot) (h2 : slot < V 4 w 3) : Met l yX4_canForget wsX4_canForget ({ frames := 1, cells := 0, slots := 0, locals := 23 }) (va_Pc [.ref (ad G 0 w), .int (iI slot)] (Sg G P V)) (Qk G mkI (dt (b2i (0 < slot ∧ bits 4 (fun b => V 8 w b = V 5 w slot) = 0)) P V)) 0 0 (mem G) := by
  refine z_met (cc := cX4_canForget) (nL := 2) (ret := (some .boolean)) (own := RX4) (by decide +kernel) rfl rfl (Nat.le_of_ble_eq_true rfl) (L := [some (.ref (ad G 0 w)), some (.int (iI slot))]) rfl ?_
  intro X E Er0
  have iX4 : ∀ x ∈ wsX40, x ∈ wsX4_canForget := by decide +kernel
  have f0 : Cond.fieldLink RX4 21 "SharedStates$World" "states" "LSharedStates$States;" ∈ wsX4_canForget := by decide +kernel
  refine z_iload_n E dX4_canForget_0 1 rfl rfl ?_
  refine z_if_le E 23 dX4_canForget_1 rfl (by omega) (fun c_1 => ?_) (fun c_1 => ?_)
  · skip
    refine z_iconst E dX4_canForget_23 ?_
    exact z_zret E Er0 dX4_canForget_24 (by first | decide | omega) (by first | exact ⟨(b2i_t (by omega)).symm, rfl, rfl⟩ | exact ⟨(b2i_f (by omega)).symm, rfl, rfl⟩)
  · skip
    refine z_aload_n E dX4_canForget_4 0 rfl rfl ?_
    refine z_aload_n E dX4_canForget_5 0 rfl rfl ?_
    refine z_get E (ci := 4) (N := 6) (C := RX4) (T := TX4) (vl_w (by decide) hw) rfl rfl iX4 1 (by decide) rfl f0 rfl dX4_canForget_6 ?_
    refine z_iload_n E dX4_canForget_9 1 rfl rfl ?_
    refine z_callV E (ci := 3) (N := 5) (C := RX3) (T := TX3) (n := 1) (st := [.ref (ad G 0 w)]) (vl_w (by decide) hw) rfl rfl [.int (iI slot)] (kX3_numberOf l G P V w slot hw hB (by omega) (by omega) (by omega)) gX4_canForget_X3_numberOf rfl ⟨rfl, rfl⟩ (by decide +kernel) ⟨Nat.le_of_ble_eq_true rfl, Nat.le_of_ble_eq_true rfl⟩ rfl rfl (Nat.le_of_ble_eq_true rfl) rfl dX4_canForget_10 (z_dtI ?_)
    have h_2a := nO_R hB w (V 4 w 3) slot
    rw [nO_t h1 h2]
    have hr_s := hB.g 5 w slot rfl
    refine z_callV E (ci := 4) (N := 6) (C := RX4) (T := TX4) (n := 1) (st := []) (vl_w (by decide) hw) rfl rfl [.int (iI (V 5 w slot))] (kX4_branchesAt l G P V w (V 5 w slot) hw hB (by omega)) gX4_canForget_X4_branchesAt rfl ⟨rfl, rfl⟩ (by decide +kernel) ⟨Nat.le_of_ble_eq_true rfl, Nat.le_of_ble_eq_true rfl⟩ rfl rfl (Nat.le_of_ble_eq_true rfl) rfl dX4_canForget_13 (z_dtI ?_)
    have h_3a := bits4_bd (fun b => V 8 w b = (V 5 w slot))
    refine z_if_ne E 23 dX4_canForget_16 rfl (by omega) (fun c_4 => ?_) (fun c_4 => ?_)
    · skip
      refine z_iconst E dX4_canForget_23 ?_
      exact z_zret E Er0 dX4_canForget_24 (by first | decide | omega) (by first | exact ⟨(b2i_t (by omega)).symm, rfl, rfl⟩ | exact ⟨(b2i_f (by omega)).symm, rfl, rfl⟩)
    · skip
      refine z_iconst E dX4_canForget_19 ?_
      refine z_goto E 24 dX4_canForget_20 rfl ?_
      exact z_zret E Er0 dX4_canForget_24 (by first | decide | omega) (by first | exact ⟨(b2i_t (by omega)).symm, rfl, rfl⟩ | exact ⟨(b2i_f (by omega)).symm, rfl, rfl⟩)

set_option maxHeartbeats 4000000 in
set_option maxRecDepth 100000 in
theorem kX4_draftState (l : Launch) (G : Gl) (P : Nat → Nat) (V : Vt) (w : Nat) (slot : Int) (hw : w < 6) (hB : BV V) (hn0 : 0 ≤ V 4 w 3) (hn1 : V 4 w 3 ≤ 16) (hL : ∀ j, 0 ≤ V 7 w j ∧ V 7 w j < 40) (h1 : 0 ≤ slot) (h2 : slot < V 4 w 3) : Met l yX4_draftState wsX4_draftState ({ frames := 2, cells := 0, slots := 0, locals := 45 }) (va_Pc [.ref (ad G 0 w), .int (iI slot)] (Sg G P V)) (Qk G mkV (fun r P' V' => P' = P ∧ BV V' ∧ V' = up V 9 w (fun c => cA (V 2 w) (V 7 w) slot c))) 0 0 (mem G) := by
  refine z_met (cc := cX4_draftState) (nL := 3) (ret := none) (own := RX4) (by decide +kernel) rfl rfl (Nat.le_of_ble_eq_true rfl) (L := [some (.ref (ad G 0 w)), some (.int (iI slot)), none]) rfl ?_
  intro X E Er0
  have iX4 : ∀ x ∈ wsX40, x ∈ wsX4_draftState := by decide +kernel
  have f0 : Cond.fieldLink RX4 29 "SharedStates$World" "draft" "[I" ∈ wsX4_draftState := by decide +kernel
  refine z_iconst E dX4_draftState_0 ?_
  refine z_istore_n E dX4_draftState_1 2 rfl (L' := [some (.ref (ad G 0 w)), some (.int (iI slot)), some (.int (iI 0))]) (Nat.le_of_ble_eq_true rfl) rfl ?_
  have lp_2_1 : ∀ (fuel : Nat) (k : Int) (Vl_2 : Vt), BV Vl_2 → (0 ≤ k) → (k ≤ 48) → (Vl_2 = up V 9 w (mix (V 9 w) (fun c => cA (V 2 w) (V 7 w) slot c) k)) → (48 - k : Int).toNat < fuel → Kz X G P Vl_2 0 0 [some (.ref (ad G 0 w)), some (.int (iI slot)), some (.int (iI k))] 2 [] := by
    intro fuel
    induction fuel with
    | zero => intro k Vl_2 hBl_2 hk0 hk1 hVl hf_2; exact absurd hf_2 (Nat.not_lt_zero _)
    | succ fuel ih_2 =>
      intro k Vl_2 hBl_2 hk0 hk1 hVl hf_2
      have g4 : Vl_2 4 w 3 = V 4 w 3 := by rw [hVl]; rfl
      have g7 : Vl_2 7 w = V 7 w := by rw [hVl]; rfl
      have g2 : Vl_2 2 w = V 2 w := by rw [hVl]; rfl
      have hLl : ∀ j, 0 ≤ Vl_2 7 w j ∧ Vl_2 7 w j < 40 := by rw [g7]; exact hL
      refine z_iload_n E dX4_draftState_2 2 rfl rfl ?_
      refine z_bipush E dX4_draftState_3 rfl ?_
      refine z_icmp_ge E 26 dX4_draftState_5 rfl (by omega) (by omega) (fun c_2 => ?_) (fun c_2 => ?_)
      · skip
        have hBd : BV (up V 9 w (fun c => cA (V 2 w) (V 7 w) slot c)) := BV_upF hB (fun j _ => cA_R hB w slot j)
        rw [hVl]
        refine z_row (r := 9) (w := w) (V' := up V 9 w (fun c => cA (V 2 w) (V 7 w) slot c)) (n := 48) (vl_w (by decide) hw) (fun _ => rfl) (fun r' w' hz => by rw [up_o hz, up_o hz]) (fun j j0 j1 => by rw [up_s, up_s]; exact if_pos ⟨j0, by omega⟩) ?_
        exact z_vret E Er0 dX4_draftState_26 (⟨rfl, hBd, rfl⟩)
      · skip
        refine z_aload_n E dX4_draftState_8 0 rfl rfl ?_
        refine z_get E (ci := 4) (N := 6) (C := RX4) (T := TX4) (vl_w (by decide) hw) rfl rfl iX4 3 (by decide) rfl f0 rfl dX4_draftState_9 ?_
        refine z_iload_n E dX4_draftState_12 2 rfl rfl ?_
        refine z_aload_n E dX4_draftState_13 0 rfl rfl ?_
        refine z_iload_n E dX4_draftState_14 1 rfl rfl ?_
        refine z_iload_n E dX4_draftState_15 2 rfl rfl ?_
        refine z_callV E (ci := 4) (N := 6) (C := RX4) (T := TX4) (n := 2) (st := [.int (iI k), .ref (ad G 9 w)]) (vl_w (by decide) hw) rfl rfl [.int (iI slot), .int (iI k)] (kX4_cellAt l G P Vl_2 w slot k hw hBl_2 (by omega) (by omega) hLl (by omega) (by omega) (by omega) (by omega)) gX4_draftState_X4_cellAt rfl ⟨rfl, rfl⟩ (by decide +kernel) ⟨Nat.le_of_ble_eq_true rfl, Nat.le_of_ble_eq_true rfl⟩ rfl rfl (Nat.le_of_ble_eq_true rfl) rfl dX4_draftState_16 (z_dtI ?_)
        have h_3a := cA_R hBl_2 w slot k
        refine z_iast E (vl_w (by decide) hw) 48 (fun _ => rfl) (by omega) (by omega) (by omega) dX4_draftState_19 ?_
        obtain ⟨V4, hV4⟩ : ∃ Z : Vt, Z = up Vl_2 9 w (updI (Vl_2 9 w) k (cA (Vl_2 2 w) (Vl_2 7 w) slot k)) := ⟨_, rfl⟩
        rw [← hV4]
        have hB4 : BV V4 := hV4 ▸ BV_up hBl_2 (by intro _; omega)
        refine z_iinc E k dX4_draftState_20 (L' := [some (.ref (ad G 0 w)), some (.int (iI slot)), some (.int (iI (k + 1)))]) (Nat.le_of_ble_eq_true rfl) rfl rfl ?_
        refine z_goto E 2 dX4_draftState_23 rfl ?_
        exact ih_2 (k + 1) V4 hB4 (by omega) (by omega) (by rw [hV4, g2, g7, hVl, up_s, mix_s hk0]; exact upup _ _ _ _ _) (by omega)
  exact lp_2_1 ((48 - 0 : Int).toNat + 1) 0 V hB (by omega) (by omega) (by rw [mix_0]; exact up_self.symm) (Nat.lt_succ_self _)

set_option maxHeartbeats 4000000 in
set_option maxRecDepth 100000 in
theorem kX4_draftMerge (l : Launch) (G : Gl) (P : Nat → Nat) (V : Vt) (w : Nat) (common : Int) (slot : Int) (merged : Int) (hw : w < 6) (hB : BV V) (hn0 : 0 ≤ V 4 w 3) (hn1 : V 4 w 3 ≤ 16) (hL : ∀ j, 0 ≤ V 7 w j ∧ V 7 w j < 40) (h1 : 0 ≤ common) (h2 : common < V 4 w 3) (h3 : 0 ≤ slot) (h4 : slot < V 4 w 3) (h5 : 0 ≤ merged) (h6 : merged < V 4 w 3) : Met l yX4_draftMerge wsX4_draftMerge ({ frames := 2, cells := 0, slots := 0, locals := 45 }) (va_Pc [.ref (ad G 0 w), .int (iI common), .int (iI slot), .int (iI merged)] (Sg G P V)) (Qk G mkI (fun r P' V' => P' = P ∧ BV V' ∧ r = sm 48 (fun c => b2i (mgX (cA (V 2 w) (V 7 w) common c) (cA (V 2 w) (V 7 w) slot c) (cA (V 2 w) (V 7 w) merged c))) ∧ V' = up V 9 w (fun c => mgC (cA (V 2 w) (V 7 w) common c) (cA (V 2 w) (V 7 w) slot c) (cA (V 2 w) (V 7 w) merged c)))) 0 0 (mem G) := by
  refine z_met (cc := cX4_draftMerge) (nL := 10) (ret := (some .int)) (own := RX4) (by decide +kernel) rfl rfl (Nat.le_of_ble_eq_true rfl) (L := [some (.ref (ad G 0 w)), some (.int (iI common)), some (.int (iI slot)), some (.int (iI merged)), none, none, none, none, none, none]) rfl ?_
  intro X E Er0
  have iX4 : ∀ x ∈ wsX40, x ∈ wsX4_draftMerge := by decide +kernel
  have f0 : Cond.fieldLink RX4 29 "SharedStates$World" "draft" "[I" ∈ wsX4_draftMerge := by decide +kernel
  refine z_iconst E dX4_draftMerge_0 ?_
  refine z_istore E dX4_draftMerge_1 (L' := [some (.ref (ad G 0 w)), some (.int (iI common)), some (.int (iI slot)), some (.int (iI merged)), some (.int (iI 0)), none, none, none, none, none]) (Nat.le_of_ble_eq_true rfl) rfl ?_
  refine z_iconst E dX4_draftMerge_3 ?_
  refine z_istore E dX4_draftMerge_4 (L' := [some (.ref (ad G 0 w)), some (.int (iI common)), some (.int (iI slot)), some (.int (iI merged)), some (.int (iI 0)), some (.int (iI 0)), none, none, none, none]) (Nat.le_of_ble_eq_true rfl) rfl ?_
  have lp_6_1 : ∀ (fuel : Nat) (m : Int) (k : Int) (Vl_6 : Vt), BV Vl_6 → (0 ≤ k) → (k ≤ 48) → (m = sm k (fun c => b2i (mgX (cA (V 2 w) (V 7 w) common c) (cA (V 2 w) (V 7 w) slot c) (cA (V 2 w) (V 7 w) merged c)))) → (Vl_6 = up V 9 w (mix (V 9 w) (fun c => mgC (cA (V 2 w) (V 7 w) common c) (cA (V 2 w) (V 7 w) slot c) (cA (V 2 w) (V 7 w) merged c)) k)) → (48 - k : Int).toNat < fuel → Kz X G P Vl_6 0 0 [some (.ref (ad G 0 w)), some (.int (iI common)), some (.int (iI slot)), some (.int (iI merged)), some (.int (iI m)), some (.int (iI k)), none, none, none, none] 6 [] := by
    intro fuel
    induction fuel with
    | zero => intro m k Vl_6 hBl_6 hk0 hk1 hs hVl hf_6; exact absurd hf_6 (Nat.not_lt_zero _)
    | succ fuel ih_6 =>
      intro m k Vl_6 hBl_6 hk0 hk1 hs hVl hf_6
      have g4 : Vl_6 4 w 3 = V 4 w 3 := by rw [hVl]; rfl
      have g7 : Vl_6 7 w = V 7 w := by rw [hVl]; rfl
      have g2 : Vl_6 2 w = V 2 w := by rw [hVl]; rfl
      have hLl : ∀ j, 0 ≤ Vl_6 7 w j ∧ Vl_6 7 w j < 40 := by rw [g7]; exact hL
      refine z_iload E dX4_draftMerge_6 rfl ?_
      refine z_bipush E dX4_draftMerge_8 rfl ?_
      refine z_icmp_ge E 115 dX4_draftMerge_10 rfl (by omega) (by omega) (fun c_2 => ?_) (fun c_2 => ?_)
      · skip
        have hBd : BV (up V 9 w (fun c => mgC (cA (V 2 w) (V 7 w) common c) (cA (V 2 w) (V 7 w) slot c) (cA (V 2 w) (V 7 w) merged c))) := BV_upF hB (fun j _ => mgC_R (cA_R hB w slot j) (cA_R hB w merged j))
        rw [hVl]
        refine z_row (r := 9) (w := w) (V' := up V 9 w (fun c => mgC (cA (V 2 w) (V 7 w) common c) (cA (V 2 w) (V 7 w) slot c) (cA (V 2 w) (V 7 w) merged c))) (n := 48) (vl_w (by decide) hw) (fun _ => rfl) (fun r' w' hz => by rw [up_o hz, up_o hz]) (fun j j0 j1 => by rw [up_s, up_s]; exact if_pos ⟨j0, by omega⟩) ?_
        refine z_iload E dX4_draftMerge_115 rfl ?_
        exact z_iret E Er0 dX4_draftMerge_117 (⟨rfl, hBd, by rw [hs, show k = 48 by omega], rfl⟩)
      · skip
        refine z_aload_n E dX4_draftMerge_13 0 rfl rfl ?_
        refine z_iload_n E dX4_draftMerge_14 1 rfl rfl ?_
        refine z_iload E dX4_draftMerge_15 rfl ?_
        refine z_callV E (ci := 4) (N := 6) (C := RX4) (T := TX4) (n := 2) (st := []) (vl_w (by decide) hw) rfl rfl [.int (iI common), .int (iI k)] (kX4_cellAt l G P Vl_6 w common k hw hBl_6 (by omega) (by omega) hLl (by omega) (by omega) (by omega) (by omega)) gX4_draftMerge_X4_cellAt rfl ⟨rfl, rfl⟩ (by decide +kernel) ⟨Nat.le_of_ble_eq_true rfl, Nat.le_of_ble_eq_true rfl⟩ rfl rfl (Nat.le_of_ble_eq_true rfl) rfl dX4_draftMerge_17 (z_dtI ?_)
        have h_3a := cA_R hBl_6 w common k
        rw [g2, g7] at h_3a ⊢
        refine z_istore E dX4_draftMerge_20 (L' := [some (.ref (ad G 0 w)), some (.int (iI common)), some (.int (iI slot)), some (.int (iI merged)), some (.int (iI m)), some (.int (iI k)), some (.int (iI (cA (V 2 w) (V 7 w) common k))), none, none, none]) (Nat.le_of_ble_eq_true rfl) rfl ?_
        refine z_aload_n E dX4_draftMerge_22 0 rfl rfl ?_
        refine z_iload_n E dX4_draftMerge_23 2 rfl rfl ?_
        refine z_iload E dX4_draftMerge_24 rfl ?_
        refine z_callV E (ci := 4) (N := 6) (C := RX4) (T := TX4) (n := 2) (st := []) (vl_w (by decide) hw) rfl rfl [.int (iI slot), .int (iI k)] (kX4_cellAt l G P Vl_6 w slot k hw hBl_6 (by omega) (by omega) hLl (by omega) (by omega) (by omega) (by omega)) gX4_draftMerge_X4_cellAt rfl ⟨rfl, rfl⟩ (by decide +kernel) ⟨Nat.le_of_ble_eq_true rfl, Nat.le_of_ble_eq_true rfl⟩ rfl rfl (Nat.le_of_ble_eq_true rfl) rfl dX4_draftMerge_26 (z_dtI ?_)
        have h_4a := cA_R hBl_6 w slot k
        rw [g2, g7] at h_4a ⊢
        refine z_istore E dX4_draftMerge_29 (L' := [some (.ref (ad G 0 w)), some (.int (iI common)), some (.int (iI slot)), some (.int (iI merged)), some (.int (iI m)), some (.int (iI k)), some (.int (iI (cA (V 2 w) (V 7 w) common k))), some (.int (iI (cA (V 2 w) (V 7 w) slot k))), none, none]) (Nat.le_of_ble_eq_true rfl) rfl ?_
        refine z_aload_n E dX4_draftMerge_31 0 rfl rfl ?_
        refine z_iload_n E dX4_draftMerge_32 3 rfl rfl ?_
        refine z_iload E dX4_draftMerge_33 rfl ?_
        refine z_callV E (ci := 4) (N := 6) (C := RX4) (T := TX4) (n := 2) (st := []) (vl_w (by decide) hw) rfl rfl [.int (iI merged), .int (iI k)] (kX4_cellAt l G P Vl_6 w merged k hw hBl_6 (by omega) (by omega) hLl (by omega) (by omega) (by omega) (by omega)) gX4_draftMerge_X4_cellAt rfl ⟨rfl, rfl⟩ (by decide +kernel) ⟨Nat.le_of_ble_eq_true rfl, Nat.le_of_ble_eq_true rfl⟩ rfl rfl (Nat.le_of_ble_eq_true rfl) rfl dX4_draftMerge_35 (z_dtI ?_)
        have h_5a := cA_R hBl_6 w merged k
        rw [g2, g7] at h_5a ⊢
        refine z_istore E dX4_draftMerge_38 (L' := [some (.ref (ad G 0 w)), some (.int (iI common)), some (.int (iI slot)), some (.int (iI merged)), some (.int (iI m)), some (.int (iI k)), some (.int (iI (cA (V 2 w) (V 7 w) common k))), some (.int (iI (cA (V 2 w) (V 7 w) slot k))), some (.int (iI (cA (V 2 w) (V 7 w) merged k))), none]) (Nat.le_of_ble_eq_true rfl) rfl ?_
        refine z_iload E dX4_draftMerge_40 rfl ?_
        refine z_iload E dX4_draftMerge_42 rfl ?_
        refine z_icmp_eq E 65 dX4_draftMerge_44 rfl (by omega) (by omega) (fun c_6 => ?_) (fun c_6 => ?_)
        · skip
          refine z_iconst E dX4_draftMerge_65 ?_
          refine z_istore E dX4_draftMerge_66 (L' := [some (.ref (ad G 0 w)), some (.int (iI common)), some (.int (iI slot)), some (.int (iI merged)), some (.int (iI m)), some (.int (iI k)), some (.int (iI (cA (V 2 w) (V 7 w) common k))), some (.int (iI (cA (V 2 w) (V 7 w) slot k))), some (.int (iI (cA (V 2 w) (V 7 w) merged k))), some (.int (iI 0))]) (Nat.le_of_ble_eq_true rfl) rfl ?_
          refine z_aload_n E dX4_draftMerge_68 0 rfl rfl ?_
          refine z_get E (ci := 4) (N := 6) (C := RX4) (T := TX4) (vl_w (by decide) hw) rfl rfl iX4 3 (by decide) rfl f0 rfl dX4_draftMerge_69 ?_
          refine z_iload E dX4_draftMerge_72 rfl ?_
          refine z_iload E dX4_draftMerge_74 rfl ?_
          refine z_iload E dX4_draftMerge_76 rfl ?_
          refine z_icmp_eq E 86 dX4_draftMerge_78 rfl (by omega) (by omega) (fun c_7 => ?_) (fun c_7 => ?_)
          · skip
            refine z_iload E dX4_draftMerge_86 rfl ?_
            refine z_goto E 93 dX4_draftMerge_88 rfl ?_
            refine z_iast E (vl_w (by decide) hw) 48 (fun _ => rfl) (by omega) (by omega) (by omega) dX4_draftMerge_93 ?_
            obtain ⟨V8, hV8⟩ : ∃ Z : Vt, Z = up Vl_6 9 w (updI (Vl_6 9 w) k (cA (V 2 w) (V 7 w) slot k)) := ⟨_, rfl⟩
            rw [← hV8]
            have hB8 : BV V8 := hV8 ▸ BV_up hBl_6 (by intro _; omega)
            refine z_iload E dX4_draftMerge_94 rfl ?_
            refine z_iload E dX4_draftMerge_96 rfl ?_
            refine z_if_eq E 105 dX4_draftMerge_98 rfl (by omega) (fun _ => ?_) (fun c => absurd c (by decide))
            refine z_iconst E dX4_draftMerge_105 ?_
            refine z_iadd E dX4_draftMerge_106 ?_
            refine z_istore E dX4_draftMerge_107 (L' := [some (.ref (ad G 0 w)), some (.int (iI common)), some (.int (iI slot)), some (.int (iI merged)), some (.int (iI (m + 0))), some (.int (iI k)), some (.int (iI (cA (V 2 w) (V 7 w) common k))), some (.int (iI (cA (V 2 w) (V 7 w) slot k))), some (.int (iI (cA (V 2 w) (V 7 w) merged k))), some (.int (iI 0))]) (Nat.le_of_ble_eq_true rfl) rfl ?_
            refine z_iinc E k dX4_draftMerge_109 (L' := [some (.ref (ad G 0 w)), some (.int (iI common)), some (.int (iI slot)), some (.int (iI merged)), some (.int (iI (m + 0))), some (.int (iI (k + 1))), some (.int (iI (cA (V 2 w) (V 7 w) common k))), some (.int (iI (cA (V 2 w) (V 7 w) slot k))), some (.int (iI (cA (V 2 w) (V 7 w) merged k))), some (.int (iI 0))]) (Nat.le_of_ble_eq_true rfl) rfl rfl ?_
            refine z_goto E 6 dX4_draftMerge_112 rfl ?_
            refine Kz.drop 6 (L' := [some (.ref (ad G 0 w)), some (.int (iI common)), some (.int (iI slot)), some (.int (iI merged)), some (.int (iI (m + 0))), some (.int (iI (k + 1))), none, some (.int (iI (cA (V 2 w) (V 7 w) slot k))), some (.int (iI (cA (V 2 w) (V 7 w) merged k))), some (.int (iI 0))]) rfl ?_
            refine Kz.drop 7 (L' := [some (.ref (ad G 0 w)), some (.int (iI common)), some (.int (iI slot)), some (.int (iI merged)), some (.int (iI (m + 0))), some (.int (iI (k + 1))), none, none, some (.int (iI (cA (V 2 w) (V 7 w) merged k))), some (.int (iI 0))]) rfl ?_
            refine Kz.drop 8 (L' := [some (.ref (ad G 0 w)), some (.int (iI common)), some (.int (iI slot)), some (.int (iI merged)), some (.int (iI (m + 0))), some (.int (iI (k + 1))), none, none, none, some (.int (iI 0))]) rfl ?_
            refine Kz.drop 9 (L' := [some (.ref (ad G 0 w)), some (.int (iI common)), some (.int (iI slot)), some (.int (iI merged)), some (.int (iI (m + 0))), some (.int (iI (k + 1))), none, none, none, none]) rfl ?_
            exact ih_6 (m + 0) (k + 1) V8 hB8 (by omega) (by omega) (by first | exact smb_t hs (by omega) (by unfold mgX; omega) | exact smb_f hs (by omega) (by unfold mgX; omega)) (by rw [hV8, hVl, up_s, upup]; congr 1; exact mix_e hk0 (by first | exact (mgC_t (by omega)).symm | exact (mgC_f (by omega)).symm)) (by omega)
          · skip
            refine z_iload E dX4_draftMerge_81 rfl ?_
            refine z_if_eq E 91 dX4_draftMerge_83 rfl (by omega) (fun _ => ?_) (fun c => absurd c (by decide))
            refine z_iload E dX4_draftMerge_91 rfl ?_
            refine z_iast E (vl_w (by decide) hw) 48 (fun _ => rfl) (by omega) (by omega) (by omega) dX4_draftMerge_93 ?_
            obtain ⟨V11, hV11⟩ : ∃ Z : Vt, Z = up Vl_6 9 w (updI (Vl_6 9 w) k (cA (V 2 w) (V 7 w) merged k)) := ⟨_, rfl⟩
            rw [← hV11]
            have hB11 : BV V11 := hV11 ▸ BV_up hBl_6 (by intro _; omega)
            refine z_iload E dX4_draftMerge_94 rfl ?_
            refine z_iload E dX4_draftMerge_96 rfl ?_
            refine z_if_eq E 105 dX4_draftMerge_98 rfl (by omega) (fun _ => ?_) (fun c => absurd c (by decide))
            refine z_iconst E dX4_draftMerge_105 ?_
            refine z_iadd E dX4_draftMerge_106 ?_
            refine z_istore E dX4_draftMerge_107 (L' := [some (.ref (ad G 0 w)), some (.int (iI common)), some (.int (iI slot)), some (.int (iI merged)), some (.int (iI (m + 0))), some (.int (iI k)), some (.int (iI (cA (V 2 w) (V 7 w) common k))), some (.int (iI (cA (V 2 w) (V 7 w) slot k))), some (.int (iI (cA (V 2 w) (V 7 w) merged k))), some (.int (iI 0))]) (Nat.le_of_ble_eq_true rfl) rfl ?_
            refine z_iinc E k dX4_draftMerge_109 (L' := [some (.ref (ad G 0 w)), some (.int (iI common)), some (.int (iI slot)), some (.int (iI merged)), some (.int (iI (m + 0))), some (.int (iI (k + 1))), some (.int (iI (cA (V 2 w) (V 7 w) common k))), some (.int (iI (cA (V 2 w) (V 7 w) slot k))), some (.int (iI (cA (V 2 w) (V 7 w) merged k))), some (.int (iI 0))]) (Nat.le_of_ble_eq_true rfl) rfl rfl ?_
            refine z_goto E 6 dX4_draftMerge_112 rfl ?_
            refine Kz.drop 6 (L' := [some (.ref (ad G 0 w)), some (.int (iI common)), some (.int (iI slot)), some (.int (iI merged)), some (.int (iI (m + 0))), some (.int (iI (k + 1))), none, some (.int (iI (cA (V 2 w) (V 7 w) slot k))), some (.int (iI (cA (V 2 w) (V 7 w) merged k))), some (.int (iI 0))]) rfl ?_
            refine Kz.drop 7 (L' := [some (.ref (ad G 0 w)), some (.int (iI common)), some (.int (iI slot)), some (.int (iI merged)), some (.int (iI (m + 0))), some (.int (iI (k + 1))), none, none, some (.int (iI (cA (V 2 w) (V 7 w) merged k))), some (.int (iI 0))]) rfl ?_
            refine Kz.drop 8 (L' := [some (.ref (ad G 0 w)), some (.int (iI common)), some (.int (iI slot)), some (.int (iI merged)), some (.int (iI (m + 0))), some (.int (iI (k + 1))), none, none, none, some (.int (iI 0))]) rfl ?_
            refine Kz.drop 9 (L' := [some (.ref (ad G 0 w)), some (.int (iI common)), some (.int (iI slot)), some (.int (iI merged)), some (.int (iI (m + 0))), some (.int (iI (k + 1))), none, none, none, none]) rfl ?_
            exact ih_6 (m + 0) (k + 1) V11 hB11 (by omega) (by omega) (by first | exact smb_t hs (by omega) (by unfold mgX; omega) | exact smb_f hs (by omega) (by unfold mgX; omega)) (by rw [hV11, hVl, up_s, upup]; congr 1; exact mix_e hk0 (by first | exact (mgC_t (by omega)).symm | exact (mgC_f (by omega)).symm)) (by omega)
        · skip
          refine z_iload E dX4_draftMerge_47 rfl ?_
          refine z_iload E dX4_draftMerge_49 rfl ?_
          refine z_icmp_eq E 65 dX4_draftMerge_51 rfl (by omega) (by omega) (fun c_13 => ?_) (fun c_13 => ?_)
          · skip
            refine z_iconst E dX4_draftMerge_65 ?_
            refine z_istore E dX4_draftMerge_66 (L' := [some (.ref (ad G 0 w)), some (.int (iI common)), some (.int (iI slot)), some (.int (iI merged)), some (.int (iI m)), some (.int (iI k)), some (.int (iI (cA (V 2 w) (V 7 w) common k))), some (.int (iI (cA (V 2 w) (V 7 w) slot k))), some (.int (iI (cA (V 2 w) (V 7 w) merged k))), some (.int (iI 0))]) (Nat.le_of_ble_eq_true rfl) rfl ?_
            refine z_aload_n E dX4_draftMerge_68 0 rfl rfl ?_
            refine z_get E (ci := 4) (N := 6) (C := RX4) (T := TX4) (vl_w (by decide) hw) rfl rfl iX4 3 (by decide) rfl f0 rfl dX4_draftMerge_69 ?_
            refine z_iload E dX4_draftMerge_72 rfl ?_
            refine z_iload E dX4_draftMerge_74 rfl ?_
            refine z_iload E dX4_draftMerge_76 rfl ?_
            refine z_icmp_eq E 86 dX4_draftMerge_78 rfl (by omega) (by omega) (fun c_14 => ?_) (fun c_14 => ?_)
            · skip
              refine z_iload E dX4_draftMerge_86 rfl ?_
              refine z_goto E 93 dX4_draftMerge_88 rfl ?_
              refine z_iast E (vl_w (by decide) hw) 48 (fun _ => rfl) (by omega) (by omega) (by omega) dX4_draftMerge_93 ?_
              obtain ⟨V15, hV15⟩ : ∃ Z : Vt, Z = up Vl_6 9 w (updI (Vl_6 9 w) k (cA (V 2 w) (V 7 w) slot k)) := ⟨_, rfl⟩
              rw [← hV15]
              have hB15 : BV V15 := hV15 ▸ BV_up hBl_6 (by intro _; omega)
              refine z_iload E dX4_draftMerge_94 rfl ?_
              refine z_iload E dX4_draftMerge_96 rfl ?_
              refine z_if_eq E 105 dX4_draftMerge_98 rfl (by omega) (fun _ => ?_) (fun c => absurd c (by decide))
              refine z_iconst E dX4_draftMerge_105 ?_
              refine z_iadd E dX4_draftMerge_106 ?_
              refine z_istore E dX4_draftMerge_107 (L' := [some (.ref (ad G 0 w)), some (.int (iI common)), some (.int (iI slot)), some (.int (iI merged)), some (.int (iI (m + 0))), some (.int (iI k)), some (.int (iI (cA (V 2 w) (V 7 w) common k))), some (.int (iI (cA (V 2 w) (V 7 w) slot k))), some (.int (iI (cA (V 2 w) (V 7 w) merged k))), some (.int (iI 0))]) (Nat.le_of_ble_eq_true rfl) rfl ?_
              refine z_iinc E k dX4_draftMerge_109 (L' := [some (.ref (ad G 0 w)), some (.int (iI common)), some (.int (iI slot)), some (.int (iI merged)), some (.int (iI (m + 0))), some (.int (iI (k + 1))), some (.int (iI (cA (V 2 w) (V 7 w) common k))), some (.int (iI (cA (V 2 w) (V 7 w) slot k))), some (.int (iI (cA (V 2 w) (V 7 w) merged k))), some (.int (iI 0))]) (Nat.le_of_ble_eq_true rfl) rfl rfl ?_
              refine z_goto E 6 dX4_draftMerge_112 rfl ?_
              refine Kz.drop 6 (L' := [some (.ref (ad G 0 w)), some (.int (iI common)), some (.int (iI slot)), some (.int (iI merged)), some (.int (iI (m + 0))), some (.int (iI (k + 1))), none, some (.int (iI (cA (V 2 w) (V 7 w) slot k))), some (.int (iI (cA (V 2 w) (V 7 w) merged k))), some (.int (iI 0))]) rfl ?_
              refine Kz.drop 7 (L' := [some (.ref (ad G 0 w)), some (.int (iI common)), some (.int (iI slot)), some (.int (iI merged)), some (.int (iI (m + 0))), some (.int (iI (k + 1))), none, none, some (.int (iI (cA (V 2 w) (V 7 w) merged k))), some (.int (iI 0))]) rfl ?_
              refine Kz.drop 8 (L' := [some (.ref (ad G 0 w)), some (.int (iI common)), some (.int (iI slot)), some (.int (iI merged)), some (.int (iI (m + 0))), some (.int (iI (k + 1))), none, none, none, some (.int (iI 0))]) rfl ?_
              refine Kz.drop 9 (L' := [some (.ref (ad G 0 w)), some (.int (iI common)), some (.int (iI slot)), some (.int (iI merged)), some (.int (iI (m + 0))), some (.int (iI (k + 1))), none, none, none, none]) rfl ?_
              exact ih_6 (m + 0) (k + 1) V15 hB15 (by omega) (by omega) (by first | exact smb_t hs (by omega) (by unfold mgX; omega) | exact smb_f hs (by omega) (by unfold mgX; omega)) (by rw [hV15, hVl, up_s, upup]; congr 1; exact mix_e hk0 (by first | exact (mgC_t (by omega)).symm | exact (mgC_f (by omega)).symm)) (by omega)
            · skip
              refine z_iload E dX4_draftMerge_81 rfl ?_
              refine z_if_eq E 91 dX4_draftMerge_83 rfl (by omega) (fun _ => ?_) (fun c => absurd c (by decide))
              refine z_iload E dX4_draftMerge_91 rfl ?_
              refine z_iast E (vl_w (by decide) hw) 48 (fun _ => rfl) (by omega) (by omega) (by omega) dX4_draftMerge_93 ?_
              obtain ⟨V18, hV18⟩ : ∃ Z : Vt, Z = up Vl_6 9 w (updI (Vl_6 9 w) k (cA (V 2 w) (V 7 w) merged k)) := ⟨_, rfl⟩
              rw [← hV18]
              have hB18 : BV V18 := hV18 ▸ BV_up hBl_6 (by intro _; omega)
              refine z_iload E dX4_draftMerge_94 rfl ?_
              refine z_iload E dX4_draftMerge_96 rfl ?_
              refine z_if_eq E 105 dX4_draftMerge_98 rfl (by omega) (fun _ => ?_) (fun c => absurd c (by decide))
              refine z_iconst E dX4_draftMerge_105 ?_
              refine z_iadd E dX4_draftMerge_106 ?_
              refine z_istore E dX4_draftMerge_107 (L' := [some (.ref (ad G 0 w)), some (.int (iI common)), some (.int (iI slot)), some (.int (iI merged)), some (.int (iI (m + 0))), some (.int (iI k)), some (.int (iI (cA (V 2 w) (V 7 w) common k))), some (.int (iI (cA (V 2 w) (V 7 w) slot k))), some (.int (iI (cA (V 2 w) (V 7 w) merged k))), some (.int (iI 0))]) (Nat.le_of_ble_eq_true rfl) rfl ?_
              refine z_iinc E k dX4_draftMerge_109 (L' := [some (.ref (ad G 0 w)), some (.int (iI common)), some (.int (iI slot)), some (.int (iI merged)), some (.int (iI (m + 0))), some (.int (iI (k + 1))), some (.int (iI (cA (V 2 w) (V 7 w) common k))), some (.int (iI (cA (V 2 w) (V 7 w) slot k))), some (.int (iI (cA (V 2 w) (V 7 w) merged k))), some (.int (iI 0))]) (Nat.le_of_ble_eq_true rfl) rfl rfl ?_
              refine z_goto E 6 dX4_draftMerge_112 rfl ?_
              refine Kz.drop 6 (L' := [some (.ref (ad G 0 w)), some (.int (iI common)), some (.int (iI slot)), some (.int (iI merged)), some (.int (iI (m + 0))), some (.int (iI (k + 1))), none, some (.int (iI (cA (V 2 w) (V 7 w) slot k))), some (.int (iI (cA (V 2 w) (V 7 w) merged k))), some (.int (iI 0))]) rfl ?_
              refine Kz.drop 7 (L' := [some (.ref (ad G 0 w)), some (.int (iI common)), some (.int (iI slot)), some (.int (iI merged)), some (.int (iI (m + 0))), some (.int (iI (k + 1))), none, none, some (.int (iI (cA (V 2 w) (V 7 w) merged k))), some (.int (iI 0))]) rfl ?_
              refine Kz.drop 8 (L' := [some (.ref (ad G 0 w)), some (.int (iI common)), some (.int (iI slot)), some (.int (iI merged)), some (.int (iI (m + 0))), some (.int (iI (k + 1))), none, none, none, some (.int (iI 0))]) rfl ?_
              refine Kz.drop 9 (L' := [some (.ref (ad G 0 w)), some (.int (iI common)), some (.int (iI slot)), some (.int (iI merged)), some (.int (iI (m + 0))), some (.int (iI (k + 1))), none, none, none, none]) rfl ?_
              exact ih_6 (m + 0) (k + 1) V18 hB18 (by omega) (by omega) (by first | exact smb_t hs (by omega) (by unfold mgX; omega) | exact smb_f hs (by omega) (by unfold mgX; omega)) (by rw [hV18, hVl, up_s, upup]; congr 1; exact mix_e hk0 (by first | exact (mgC_t (by omega)).symm | exact (mgC_f (by omega)).symm)) (by omega)
          · skip
            refine z_iload E dX4_draftMerge_54 rfl ?_
            refine z_iload E dX4_draftMerge_56 rfl ?_
            refine z_icmp_eq E 65 dX4_draftMerge_58 rfl (by omega) (by omega) (fun c_20 => ?_) (fun c_20 => ?_)
            · skip
              refine z_iconst E dX4_draftMerge_65 ?_
              refine z_istore E dX4_draftMerge_66 (L' := [some (.ref (ad G 0 w)), some (.int (iI common)), some (.int (iI slot)), some (.int (iI merged)), some (.int (iI m)), some (.int (iI k)), some (.int (iI (cA (V 2 w) (V 7 w) common k))), some (.int (iI (cA (V 2 w) (V 7 w) slot k))), some (.int (iI (cA (V 2 w) (V 7 w) merged k))), some (.int (iI 0))]) (Nat.le_of_ble_eq_true rfl) rfl ?_
              refine z_aload_n E dX4_draftMerge_68 0 rfl rfl ?_
              refine z_get E (ci := 4) (N := 6) (C := RX4) (T := TX4) (vl_w (by decide) hw) rfl rfl iX4 3 (by decide) rfl f0 rfl dX4_draftMerge_69 ?_
              refine z_iload E dX4_draftMerge_72 rfl ?_
              refine z_iload E dX4_draftMerge_74 rfl ?_
              refine z_iload E dX4_draftMerge_76 rfl ?_
              refine z_icmp_eq E 86 dX4_draftMerge_78 rfl (by omega) (by omega) (fun c_21 => ?_) (fun c_21 => ?_)
              · skip
                refine z_iload E dX4_draftMerge_86 rfl ?_
                refine z_goto E 93 dX4_draftMerge_88 rfl ?_
                refine z_iast E (vl_w (by decide) hw) 48 (fun _ => rfl) (by omega) (by omega) (by omega) dX4_draftMerge_93 ?_
                obtain ⟨V22, hV22⟩ : ∃ Z : Vt, Z = up Vl_6 9 w (updI (Vl_6 9 w) k (cA (V 2 w) (V 7 w) slot k)) := ⟨_, rfl⟩
                rw [← hV22]
                have hB22 : BV V22 := hV22 ▸ BV_up hBl_6 (by intro _; omega)
                refine z_iload E dX4_draftMerge_94 rfl ?_
                refine z_iload E dX4_draftMerge_96 rfl ?_
                refine z_if_eq E 105 dX4_draftMerge_98 rfl (by omega) (fun _ => ?_) (fun c => absurd c (by decide))
                refine z_iconst E dX4_draftMerge_105 ?_
                refine z_iadd E dX4_draftMerge_106 ?_
                refine z_istore E dX4_draftMerge_107 (L' := [some (.ref (ad G 0 w)), some (.int (iI common)), some (.int (iI slot)), some (.int (iI merged)), some (.int (iI (m + 0))), some (.int (iI k)), some (.int (iI (cA (V 2 w) (V 7 w) common k))), some (.int (iI (cA (V 2 w) (V 7 w) slot k))), some (.int (iI (cA (V 2 w) (V 7 w) merged k))), some (.int (iI 0))]) (Nat.le_of_ble_eq_true rfl) rfl ?_
                refine z_iinc E k dX4_draftMerge_109 (L' := [some (.ref (ad G 0 w)), some (.int (iI common)), some (.int (iI slot)), some (.int (iI merged)), some (.int (iI (m + 0))), some (.int (iI (k + 1))), some (.int (iI (cA (V 2 w) (V 7 w) common k))), some (.int (iI (cA (V 2 w) (V 7 w) slot k))), some (.int (iI (cA (V 2 w) (V 7 w) merged k))), some (.int (iI 0))]) (Nat.le_of_ble_eq_true rfl) rfl rfl ?_
                refine z_goto E 6 dX4_draftMerge_112 rfl ?_
                refine Kz.drop 6 (L' := [some (.ref (ad G 0 w)), some (.int (iI common)), some (.int (iI slot)), some (.int (iI merged)), some (.int (iI (m + 0))), some (.int (iI (k + 1))), none, some (.int (iI (cA (V 2 w) (V 7 w) slot k))), some (.int (iI (cA (V 2 w) (V 7 w) merged k))), some (.int (iI 0))]) rfl ?_
                refine Kz.drop 7 (L' := [some (.ref (ad G 0 w)), some (.int (iI common)), some (.int (iI slot)), some (.int (iI merged)), some (.int (iI (m + 0))), some (.int (iI (k + 1))), none, none, some (.int (iI (cA (V 2 w) (V 7 w) merged k))), some (.int (iI 0))]) rfl ?_
                refine Kz.drop 8 (L' := [some (.ref (ad G 0 w)), some (.int (iI common)), some (.int (iI slot)), some (.int (iI merged)), some (.int (iI (m + 0))), some (.int (iI (k + 1))), none, none, none, some (.int (iI 0))]) rfl ?_
                refine Kz.drop 9 (L' := [some (.ref (ad G 0 w)), some (.int (iI common)), some (.int (iI slot)), some (.int (iI merged)), some (.int (iI (m + 0))), some (.int (iI (k + 1))), none, none, none, none]) rfl ?_
                exact ih_6 (m + 0) (k + 1) V22 hB22 (by omega) (by omega) (by first | exact smb_t hs (by omega) (by unfold mgX; omega) | exact smb_f hs (by omega) (by unfold mgX; omega)) (by rw [hV22, hVl, up_s, upup]; congr 1; exact mix_e hk0 (by first | exact (mgC_t (by omega)).symm | exact (mgC_f (by omega)).symm)) (by omega)
              · skip
                refine z_iload E dX4_draftMerge_81 rfl ?_
                refine z_if_eq E 91 dX4_draftMerge_83 rfl (by omega) (fun _ => ?_) (fun c => absurd c (by decide))
                refine z_iload E dX4_draftMerge_91 rfl ?_
                refine z_iast E (vl_w (by decide) hw) 48 (fun _ => rfl) (by omega) (by omega) (by omega) dX4_draftMerge_93 ?_
                obtain ⟨V25, hV25⟩ : ∃ Z : Vt, Z = up Vl_6 9 w (updI (Vl_6 9 w) k (cA (V 2 w) (V 7 w) merged k)) := ⟨_, rfl⟩
                rw [← hV25]
                have hB25 : BV V25 := hV25 ▸ BV_up hBl_6 (by intro _; omega)
                refine z_iload E dX4_draftMerge_94 rfl ?_
                refine z_iload E dX4_draftMerge_96 rfl ?_
                refine z_if_eq E 105 dX4_draftMerge_98 rfl (by omega) (fun _ => ?_) (fun c => absurd c (by decide))
                refine z_iconst E dX4_draftMerge_105 ?_
                refine z_iadd E dX4_draftMerge_106 ?_
                refine z_istore E dX4_draftMerge_107 (L' := [some (.ref (ad G 0 w)), some (.int (iI common)), some (.int (iI slot)), some (.int (iI merged)), some (.int (iI (m + 0))), some (.int (iI k)), some (.int (iI (cA (V 2 w) (V 7 w) common k))), some (.int (iI (cA (V 2 w) (V 7 w) slot k))), some (.int (iI (cA (V 2 w) (V 7 w) merged k))), some (.int (iI 0))]) (Nat.le_of_ble_eq_true rfl) rfl ?_
                refine z_iinc E k dX4_draftMerge_109 (L' := [some (.ref (ad G 0 w)), some (.int (iI common)), some (.int (iI slot)), some (.int (iI merged)), some (.int (iI (m + 0))), some (.int (iI (k + 1))), some (.int (iI (cA (V 2 w) (V 7 w) common k))), some (.int (iI (cA (V 2 w) (V 7 w) slot k))), some (.int (iI (cA (V 2 w) (V 7 w) merged k))), some (.int (iI 0))]) (Nat.le_of_ble_eq_true rfl) rfl rfl ?_
                refine z_goto E 6 dX4_draftMerge_112 rfl ?_
                refine Kz.drop 6 (L' := [some (.ref (ad G 0 w)), some (.int (iI common)), some (.int (iI slot)), some (.int (iI merged)), some (.int (iI (m + 0))), some (.int (iI (k + 1))), none, some (.int (iI (cA (V 2 w) (V 7 w) slot k))), some (.int (iI (cA (V 2 w) (V 7 w) merged k))), some (.int (iI 0))]) rfl ?_
                refine Kz.drop 7 (L' := [some (.ref (ad G 0 w)), some (.int (iI common)), some (.int (iI slot)), some (.int (iI merged)), some (.int (iI (m + 0))), some (.int (iI (k + 1))), none, none, some (.int (iI (cA (V 2 w) (V 7 w) merged k))), some (.int (iI 0))]) rfl ?_
                refine Kz.drop 8 (L' := [some (.ref (ad G 0 w)), some (.int (iI common)), some (.int (iI slot)), some (.int (iI merged)), some (.int (iI (m + 0))), some (.int (iI (k + 1))), none, none, none, some (.int (iI 0))]) rfl ?_
                refine Kz.drop 9 (L' := [some (.ref (ad G 0 w)), some (.int (iI common)), some (.int (iI slot)), some (.int (iI merged)), some (.int (iI (m + 0))), some (.int (iI (k + 1))), none, none, none, none]) rfl ?_
                exact ih_6 (m + 0) (k + 1) V25 hB25 (by omega) (by omega) (by first | exact smb_t hs (by omega) (by unfold mgX; omega) | exact smb_f hs (by omega) (by unfold mgX; omega)) (by rw [hV25, hVl, up_s, upup]; congr 1; exact mix_e hk0 (by first | exact (mgC_t (by omega)).symm | exact (mgC_f (by omega)).symm)) (by omega)
            · skip
              refine z_iconst E dX4_draftMerge_61 ?_
              refine z_goto E 66 dX4_draftMerge_62 rfl ?_
              refine z_istore E dX4_draftMerge_66 (L' := [some (.ref (ad G 0 w)), some (.int (iI common)), some (.int (iI slot)), some (.int (iI merged)), some (.int (iI m)), some (.int (iI k)), some (.int (iI (cA (V 2 w) (V 7 w) common k))), some (.int (iI (cA (V 2 w) (V 7 w) slot k))), some (.int (iI (cA (V 2 w) (V 7 w) merged k))), some (.int (iI 1))]) (Nat.le_of_ble_eq_true rfl) rfl ?_
              refine z_aload_n E dX4_draftMerge_68 0 rfl rfl ?_
              refine z_get E (ci := 4) (N := 6) (C := RX4) (T := TX4) (vl_w (by decide) hw) rfl rfl iX4 3 (by decide) rfl f0 rfl dX4_draftMerge_69 ?_
              refine z_iload E dX4_draftMerge_72 rfl ?_
              refine z_iload E dX4_draftMerge_74 rfl ?_
              refine z_iload E dX4_draftMerge_76 rfl ?_
              refine z_icmp_eq E 86 dX4_draftMerge_78 rfl (by omega) (by omega) (fun c_27 => ?_) (fun c_27 => ?_)
              · skip
                refine z_iload E dX4_draftMerge_86 rfl ?_
                refine z_goto E 93 dX4_draftMerge_88 rfl ?_
                refine z_iast E (vl_w (by decide) hw) 48 (fun _ => rfl) (by omega) (by omega) (by omega) dX4_draftMerge_93 ?_
                obtain ⟨V28, hV28⟩ : ∃ Z : Vt, Z = up Vl_6 9 w (updI (Vl_6 9 w) k (cA (V 2 w) (V 7 w) slot k)) := ⟨_, rfl⟩
                rw [← hV28]
                have hB28 : BV V28 := hV28 ▸ BV_up hBl_6 (by intro _; omega)
                refine z_iload E dX4_draftMerge_94 rfl ?_
                refine z_iload E dX4_draftMerge_96 rfl ?_
                refine z_if_eq E 105 dX4_draftMerge_98 rfl (by omega) (fun c => absurd c (by decide)) (fun _ => ?_)
                refine z_iconst E dX4_draftMerge_101 ?_
                refine z_goto E 106 dX4_draftMerge_102 rfl ?_
                refine z_iadd E dX4_draftMerge_106 ?_
                refine z_istore E dX4_draftMerge_107 (L' := [some (.ref (ad G 0 w)), some (.int (iI common)), some (.int (iI slot)), some (.int (iI merged)), some (.int (iI (m + 1))), some (.int (iI k)), some (.int (iI (cA (V 2 w) (V 7 w) common k))), some (.int (iI (cA (V 2 w) (V 7 w) slot k))), some (.int (iI (cA (V 2 w) (V 7 w) merged k))), some (.int (iI 1))]) (Nat.le_of_ble_eq_true rfl) rfl ?_
                refine z_iinc E k dX4_draftMerge_109 (L' := [some (.ref (ad G 0 w)), some (.int (iI common)), some (.int (iI slot)), some (.int (iI merged)), some (.int (iI (m + 1))), some (.int (iI (k + 1))), some (.int (iI (cA (V 2 w) (V 7 w) common k))), some (.int (iI (cA (V 2 w) (V 7 w) slot k))), some (.int (iI (cA (V 2 w) (V 7 w) merged k))), some (.int (iI 1))]) (Nat.le_of_ble_eq_true rfl) rfl rfl ?_
                refine z_goto E 6 dX4_draftMerge_112 rfl ?_
                refine Kz.drop 6 (L' := [some (.ref (ad G 0 w)), some (.int (iI common)), some (.int (iI slot)), some (.int (iI merged)), some (.int (iI (m + 1))), some (.int (iI (k + 1))), none, some (.int (iI (cA (V 2 w) (V 7 w) slot k))), some (.int (iI (cA (V 2 w) (V 7 w) merged k))), some (.int (iI 1))]) rfl ?_
                refine Kz.drop 7 (L' := [some (.ref (ad G 0 w)), some (.int (iI common)), some (.int (iI slot)), some (.int (iI merged)), some (.int (iI (m + 1))), some (.int (iI (k + 1))), none, none, some (.int (iI (cA (V 2 w) (V 7 w) merged k))), some (.int (iI 1))]) rfl ?_
                refine Kz.drop 8 (L' := [some (.ref (ad G 0 w)), some (.int (iI common)), some (.int (iI slot)), some (.int (iI merged)), some (.int (iI (m + 1))), some (.int (iI (k + 1))), none, none, none, some (.int (iI 1))]) rfl ?_
                refine Kz.drop 9 (L' := [some (.ref (ad G 0 w)), some (.int (iI common)), some (.int (iI slot)), some (.int (iI merged)), some (.int (iI (m + 1))), some (.int (iI (k + 1))), none, none, none, none]) rfl ?_
                exact ih_6 (m + 1) (k + 1) V28 hB28 (by omega) (by omega) (by first | exact smb_t hs (by omega) (by unfold mgX; omega) | exact smb_f hs (by omega) (by unfold mgX; omega)) (by rw [hV28, hVl, up_s, upup]; congr 1; exact mix_e hk0 (by first | exact (mgC_t (by omega)).symm | exact (mgC_f (by omega)).symm)) (by omega)
              · skip
                refine z_iload E dX4_draftMerge_81 rfl ?_
                refine z_if_eq E 91 dX4_draftMerge_83 rfl (by omega) (fun c => absurd c (by decide)) (fun _ => ?_)
                refine z_iload E dX4_draftMerge_86 rfl ?_
                refine z_goto E 93 dX4_draftMerge_88 rfl ?_
                refine z_iast E (vl_w (by decide) hw) 48 (fun _ => rfl) (by omega) (by omega) (by omega) dX4_draftMerge_93 ?_
                obtain ⟨V31, hV31⟩ : ∃ Z : Vt, Z = up Vl_6 9 w (updI (Vl_6 9 w) k (cA (V 2 w) (V 7 w) slot k)) := ⟨_, rfl⟩
                rw [← hV31]
                have hB31 : BV V31 := hV31 ▸ BV_up hBl_6 (by intro _; omega)
                refine z_iload E dX4_draftMerge_94 rfl ?_
                refine z_iload E dX4_draftMerge_96 rfl ?_
                refine z_if_eq E 105 dX4_draftMerge_98 rfl (by omega) (fun c => absurd c (by decide)) (fun _ => ?_)
                refine z_iconst E dX4_draftMerge_101 ?_
                refine z_goto E 106 dX4_draftMerge_102 rfl ?_
                refine z_iadd E dX4_draftMerge_106 ?_
                refine z_istore E dX4_draftMerge_107 (L' := [some (.ref (ad G 0 w)), some (.int (iI common)), some (.int (iI slot)), some (.int (iI merged)), some (.int (iI (m + 1))), some (.int (iI k)), some (.int (iI (cA (V 2 w) (V 7 w) common k))), some (.int (iI (cA (V 2 w) (V 7 w) slot k))), some (.int (iI (cA (V 2 w) (V 7 w) merged k))), some (.int (iI 1))]) (Nat.le_of_ble_eq_true rfl) rfl ?_
                refine z_iinc E k dX4_draftMerge_109 (L' := [some (.ref (ad G 0 w)), some (.int (iI common)), some (.int (iI slot)), some (.int (iI merged)), some (.int (iI (m + 1))), some (.int (iI (k + 1))), some (.int (iI (cA (V 2 w) (V 7 w) common k))), some (.int (iI (cA (V 2 w) (V 7 w) slot k))), some (.int (iI (cA (V 2 w) (V 7 w) merged k))), some (.int (iI 1))]) (Nat.le_of_ble_eq_true rfl) rfl rfl ?_
                refine z_goto E 6 dX4_draftMerge_112 rfl ?_
                refine Kz.drop 6 (L' := [some (.ref (ad G 0 w)), some (.int (iI common)), some (.int (iI slot)), some (.int (iI merged)), some (.int (iI (m + 1))), some (.int (iI (k + 1))), none, some (.int (iI (cA (V 2 w) (V 7 w) slot k))), some (.int (iI (cA (V 2 w) (V 7 w) merged k))), some (.int (iI 1))]) rfl ?_
                refine Kz.drop 7 (L' := [some (.ref (ad G 0 w)), some (.int (iI common)), some (.int (iI slot)), some (.int (iI merged)), some (.int (iI (m + 1))), some (.int (iI (k + 1))), none, none, some (.int (iI (cA (V 2 w) (V 7 w) merged k))), some (.int (iI 1))]) rfl ?_
                refine Kz.drop 8 (L' := [some (.ref (ad G 0 w)), some (.int (iI common)), some (.int (iI slot)), some (.int (iI merged)), some (.int (iI (m + 1))), some (.int (iI (k + 1))), none, none, none, some (.int (iI 1))]) rfl ?_
                refine Kz.drop 9 (L' := [some (.ref (ad G 0 w)), some (.int (iI common)), some (.int (iI slot)), some (.int (iI merged)), some (.int (iI (m + 1))), some (.int (iI (k + 1))), none, none, none, none]) rfl ?_
                exact ih_6 (m + 1) (k + 1) V31 hB31 (by omega) (by omega) (by first | exact smb_t hs (by omega) (by unfold mgX; omega) | exact smb_f hs (by omega) (by unfold mgX; omega)) (by rw [hV31, hVl, up_s, upup]; congr 1; exact mix_e hk0 (by first | exact (mgC_t (by omega)).symm | exact (mgC_f (by omega)).symm)) (by omega)
  exact lp_6_1 ((48 - 0 : Int).toNat + 1) 0 0 V hB (by omega) (by omega) (sm_0 (by omega)).symm (by rw [mix_0]; exact up_self.symm) (Nat.lt_succ_self _)

set_option maxHeartbeats 4000000 in
set_option maxRecDepth 100000 in
theorem kX4_addDraft (l : Launch) (G : Gl) (P : Nat → Nat) (V : Vt) (w : Nat) (branch : Int) (slot : Int) (hw : w < 6) (hB : BV V) (hn0 : 0 ≤ V 4 w 3) (hn1 : V 4 w 3 ≤ 16) (hL : ∀ j, 0 ≤ V 7 w j ∧ V 7 w j < 40) (hU : ∀ j, 0 ≤ V 3 w j ∧ V 3 w j ≤ 500) (h1 : 0 ≤ slot) (h2 : slot < V 4 w 3) (h3 : 0 ≤ branch) (h4 : branch < 4) (h5 : inR (V 4 w 4 + 1)) : Met l yX4_addDraft wsX4_addDraft ({ frames := 2, cells := 0, slots := 0, locals := 83 }) (va_Pc [.ref (ad G 0 w), .int (iI branch), .int (iI slot)] (Sg G P V)) (Qk G mkI (fun r P' V' => P' = P ∧ BV V' ∧ FR w V V' ∧ ((r = -1000003 ∧ adFail V w slot) ∨ (V 4 w 3 < 16 ∧ r = V 4 w 4 ∧ ∃ V6, adC w slot V 6 V6 ∧ V' = adEnd V6 w branch slot)))) 0 0 (mem G) := by
  refine z_met (cc := cX4_addDraft) (nL := 7) (ret := (some .int)) (own := RX4) (by decide +kernel) rfl rfl (Nat.le_of_ble_eq_true rfl) (L := [some (.ref (ad G 0 w)), some (.int (iI branch)), some (.int (iI slot)), none, none, none, none]) rfl ?_
  intro X E Er0
  have iX0 : ∀ x ∈ wsX00, x ∈ wsX4_addDraft := by decide +kernel
  have iX3 : ∀ x ∈ wsX30, x ∈ wsX4_addDraft := by decide +kernel
  have iX4 : ∀ x ∈ wsX40, x ∈ wsX4_addDraft := by decide +kernel
  have f0 : Cond.fieldLink RX4 21 "SharedStates$World" "states" "LSharedStates$States;" ∈ wsX4_addDraft := by decide +kernel
  have f1 : Cond.fieldLink RX4 116 "SharedStates$States" "size" "I" ∈ wsX4_addDraft := by decide +kernel
  have f2 : Cond.fieldLink RX4 25 "SharedStates$World" "heads" "[I" ∈ wsX4_addDraft := by decide +kernel
  have f3 : Cond.fieldLink RX4 12 "SharedStates$World" "blocks" "LSharedStates$Blocks;" ∈ wsX4_addDraft := by decide +kernel
  have f4 : Cond.fieldLink RX4 29 "SharedStates$World" "draft" "[I" ∈ wsX4_addDraft := by decide +kernel
  have f5 : Cond.fieldLink RX4 138 "SharedStates$States" "places" "[I" ∈ wsX4_addDraft := by decide +kernel
  have f6 : Cond.constant RX4 119 (-1000003) ∈ wsX4_addDraft := by decide +kernel
  have f7 : Cond.fieldLink RX4 32 "SharedStates$World" "sharing" "I" ∈ wsX4_addDraft := by decide +kernel
  have f8 : Cond.fieldLink RX4 128 "SharedStates$Blocks" "taken" "I" ∈ wsX4_addDraft := by decide +kernel
  refine z_aload_n E dX4_addDraft_0 0 rfl rfl ?_
  refine z_get E (ci := 4) (N := 6) (C := RX4) (T := TX4) (vl_w (by decide) hw) rfl rfl iX4 1 (by decide) rfl f0 rfl dX4_addDraft_1 ?_
  have hr_1 := hB.g 4 w 3 rfl
  refine z_get E (ci := 3) (N := 5) (C := RX3) (T := TX3) (vl_w (by decide) hw) rfl rfl iX3 3 (by decide) rfl f1 rfl dX4_addDraft_4 ?_
  refine z_bipush E dX4_addDraft_7 rfl ?_
  refine z_icmp_lt E 15 dX4_addDraft_9 rfl (by omega) (by omega) (fun c_2 => ?_) (fun c_2 => ?_)
  · skip
    refine z_iconst E dX4_addDraft_15 ?_
    refine z_istore_n E dX4_addDraft_16 3 rfl (L' := [some (.ref (ad G 0 w)), some (.int (iI branch)), some (.int (iI slot)), some (.int (iI 0)), none, none, none]) (Nat.le_of_ble_eq_true rfl) rfl ?_
    have lp_17_3 : ∀ (fuel : Nat) (k : Int) (Vl_17 : Vt), BV Vl_17 → (0 ≤ k) → (k ≤ 6) → (adC w slot V k.toNat Vl_17) → (∀ r, ¬ r = 1 → ¬ r = 2 → ¬ r = 3 → ¬ r = 7 → Vl_17 r w = V r w) → (∀ j, 0 ≤ Vl_17 7 w j ∧ Vl_17 7 w j < 40) → (∀ j, 0 ≤ Vl_17 3 w j ∧ Vl_17 3 w j ≤ 500 + k) → (6 - k : Int).toNat < fuel → Kz X G P Vl_17 0 0 [some (.ref (ad G 0 w)), some (.int (iI branch)), some (.int (iI slot)), some (.int (iI k)), none, none, none] 17 [] := by
      intro fuel
      induction fuel with
      | zero => intro k Vl_17 hBl_17 hk0 hk1 hch hfr hLl hUl hf_17; exact absurd hf_17 (Nat.not_lt_zero _)
      | succ fuel ih_17 =>
        intro k Vl_17 hBl_17 hk0 hk1 hch hfr hLl hUl hf_17
        have g43 : Vl_17 4 w 3 = V 4 w 3 := by rw [hfr 4 (by decide) (by decide) (by decide) (by decide)]
        have g44 : Vl_17 4 w 4 = V 4 w 4 := by rw [hfr 4 (by decide) (by decide) (by decide) (by decide)]
        have q3 : Vl_17 3 w = Vl_17 3 w := by rfl
        have q4 : Vl_17 4 w = Vl_17 4 w := by rfl
        have q7 : Vl_17 7 w = Vl_17 7 w := by rfl
        have q9 : Vl_17 9 w = Vl_17 9 w := by rfl
        refine z_iload_n E dX4_addDraft_17 3 rfl rfl ?_
        refine z_bipush E dX4_addDraft_18 rfl ?_
        refine z_icmp_ge E 178 dX4_addDraft_20 rfl (by omega) (by omega) (fun c_4 => ?_) (fun c_4 => ?_)
        · skip
          refine z_aload_n E dX4_addDraft_178 0 rfl rfl ?_
          refine z_get E (ci := 4) (N := 6) (C := RX4) (T := TX4) (vl_w (by decide) hw) rfl rfl iX4 2 (by decide) rfl f2 rfl dX4_addDraft_179 ?_
          refine z_iload_n E dX4_addDraft_182 1 rfl rfl ?_
          refine z_aload_n E dX4_addDraft_183 0 rfl rfl ?_
          refine z_get E (ci := 4) (N := 6) (C := RX4) (T := TX4) (vl_w (by decide) hw) rfl rfl iX4 1 (by decide) rfl f0 rfl dX4_addDraft_184 ?_
          refine z_aload_n E dX4_addDraft_187 0 rfl rfl ?_
          refine z_get E (ci := 4) (N := 6) (C := RX4) (T := TX4) (vl_w (by decide) hw) rfl rfl iX4 1 (by decide) rfl f0 rfl dX4_addDraft_188 ?_
          refine z_iload_n E dX4_addDraft_191 2 rfl rfl ?_
          refine z_callV E (ci := 3) (N := 5) (C := RX3) (T := TX3) (n := 1) (st := [.ref (ad G 4 w), .int (iI branch), .ref (ad G 8 w)]) (vl_w (by decide) hw) rfl rfl [.int (iI slot)] (kX3_numberOf l G P Vl_17 w slot hw hBl_17 (by omega) (by omega) (by omega)) gX4_addDraft_X3_numberOf rfl ⟨rfl, rfl⟩ (by decide +kernel) ⟨Nat.le_of_ble_eq_true rfl, Nat.le_of_ble_eq_true rfl⟩ rfl rfl (Nat.le_of_ble_eq_true rfl) rfl dX4_addDraft_192 (z_dtI ?_)
          have h_5a := nO_R hBl_17 w (Vl_17 4 w 3) slot
          rw [nO_t h1 (by omega)]
          have hr_s := hBl_17.g 5 w slot rfl
          refine z_callV E (ci := 3) (N := 5) (C := RX3) (T := TX3) (n := 1) (st := [.int (iI branch), .ref (ad G 8 w)]) (vl_w (by decide) hw) rfl rfl [.int (iI (Vl_17 5 w slot))] (kX3_add l G P Vl_17 w (Vl_17 5 w slot) hw hBl_17 (by omega) (by omega) (by omega) (by omega) (by omega)) gX4_addDraft_X3_add rfl ⟨rfl, rfl⟩ (by decide +kernel) ⟨Nat.le_of_ble_eq_true rfl, Nat.le_of_ble_eq_true rfl⟩ rfl rfl (Nat.le_of_ble_eq_true rfl) rfl dX4_addDraft_195 (z_exI (fun r_6 P_6 V_6 h_6 => ?_))
          obtain ⟨hr_6, hP_6, hB_6, h_6⟩ := h_6
          rw [hP_6]
          have hr_z := hB.g 4 w 4 rfl
          have had := h_6
          have hrv := hr_6
          have hrad : r_6 = V 4 w 4 := by omega
          refine z_iast E (vl_w (by decide) hw) 4 (fun _ => rfl) (by omega) (by omega) (by omega) dX4_addDraft_198 ?_
          obtain ⟨V7, hV7⟩ : ∃ Z : Vt, Z = up V_6 8 w (updI (V_6 8 w) branch r_6) := ⟨_, rfl⟩
          rw [← hV7]
          have hB7 : BV V7 := hV7 ▸ BV_up hB_6 (by intro _; omega)
          have hw_198 := hV7
          refine z_aload_n E dX4_addDraft_199 0 rfl rfl ?_
          refine z_get E (ci := 4) (N := 6) (C := RX4) (T := TX4) (vl_w (by decide) hw) rfl rfl iX4 2 (by decide) rfl f2 rfl dX4_addDraft_200 ?_
          refine z_iload_n E dX4_addDraft_203 1 rfl rfl ?_
          refine z_iald E (vl_w (by decide) hw) 4 rfl (by omega) (by omega) (by omega) dX4_addDraft_204 ?_
          have hr_8 := hB7.g 8 w branch rfl
          exact z_iret E Er0 dX4_addDraft_205 (by
              have e1 : V7 8 w branch = V 4 w 4 := by rw [hw_198, up_s, updI_s, hrad]
              refine ⟨rfl, hB7, by rw [hw_198, had]; exact ((((adC_fR hch).u (by decide)).u (by decide)).u (by decide)).u (by decide), Or.inr ⟨by omega, e1, Vl_17, ?_, ?_⟩⟩
              · have hk : k = 6 := by omega
                rw [hk] at hch; exact hch
              · rw [hw_198, had, hrv] <;> rfl)
        · skip
          refine z_iload_n E dX4_addDraft_23 3 rfl rfl ?_
          refine z_bipush E dX4_addDraft_24 rfl ?_
          refine z_imul E dX4_addDraft_26 ?_
          refine z_istore E dX4_addDraft_27 (L' := [some (.ref (ad G 0 w)), some (.int (iI branch)), some (.int (iI slot)), some (.int (iI k)), some (.int (iI (k * 8))), none, none]) (Nat.le_of_ble_eq_true rfl) rfl ?_
          refine z_aload_n E dX4_addDraft_29 0 rfl rfl ?_
          refine z_get E (ci := 4) (N := 6) (C := RX4) (T := TX4) (vl_w (by decide) hw) rfl rfl iX4 1 (by decide) rfl f0 rfl dX4_addDraft_30 ?_
          refine z_iload_n E dX4_addDraft_33 2 rfl rfl ?_
          refine z_iload_n E dX4_addDraft_34 3 rfl rfl ?_
          refine z_callV E (ci := 3) (N := 5) (C := RX3) (T := TX3) (n := 2) (st := []) (vl_w (by decide) hw) rfl rfl [.int (iI slot), .int (iI k)] (kX3_block l G P Vl_17 w slot k hw hBl_17 (by omega) (by omega) hLl (by omega) (by omega) (by omega) (by omega)) gX4_addDraft_X3_block rfl ⟨rfl, rfl⟩ (by decide +kernel) ⟨Nat.le_of_ble_eq_true rfl, Nat.le_of_ble_eq_true rfl⟩ rfl rfl (Nat.le_of_ble_eq_true rfl) rfl dX4_addDraft_35 (z_dtI ?_)
          have h_9a := hLl (slot * 6 + k)
          have hbk := h_9a
          refine z_istore E dX4_addDraft_38 (L' := [some (.ref (ad G 0 w)), some (.int (iI branch)), some (.int (iI slot)), some (.int (iI k)), some (.int (iI (k * 8))), some (.int (iI (Vl_17 7 w (slot * 6 + k)))), none]) (Nat.le_of_ble_eq_true rfl) rfl ?_
          refine z_aload_n E dX4_addDraft_40 0 rfl rfl ?_
          refine z_get E (ci := 4) (N := 6) (C := RX4) (T := TX4) (vl_w (by decide) hw) rfl rfl iX4 0 (by decide) rfl f3 rfl dX4_addDraft_41 ?_
          refine z_iload E dX4_addDraft_44 rfl ?_
          refine z_aload_n E dX4_addDraft_46 0 rfl rfl ?_
          refine z_get E (ci := 4) (N := 6) (C := RX4) (T := TX4) (vl_w (by decide) hw) rfl rfl iX4 3 (by decide) rfl f4 rfl dX4_addDraft_47 ?_
          refine z_iload E dX4_addDraft_50 rfl ?_
          refine z_callV E (ci := 0) (N := 4) (C := RX0) (T := TX0) (n := 3) (st := []) (vl_w (by decide) hw) rfl rfl [.int (iI (Vl_17 7 w (slot * 6 + k))), .ref (ad G 9 w), .int (iI (k * 8))] (kX0_holds l G P Vl_17 w (Vl_17 7 w (slot * 6 + k)) 9 48 (k * 8) hw hBl_17 (by omega) (by omega) (by omega) (by omega) (by omega)) gX4_addDraft_X0_holds rfl ⟨rfl, rfl⟩ (by decide +kernel) ⟨Nat.le_of_ble_eq_true rfl, Nat.le_of_ble_eq_true rfl⟩ rfl rfl (Nat.le_of_ble_eq_true rfl) rfl dX4_addDraft_52 (z_dtI ?_)
          refine z_ifne_b E 132 dX4_addDraft_55 rfl (fun c_11 => ?_) (fun c_11 => ?_)
          · skip
            refine z_iload E dX4_addDraft_132 rfl ?_
            refine z_if_ge E 140 dX4_addDraft_134 rfl (by omega) (fun c_12 => ?_) (fun c_12 => ?_)
            · skip
              refine z_aload_n E dX4_addDraft_140 0 rfl rfl ?_
              refine z_get E (ci := 4) (N := 6) (C := RX4) (T := TX4) (vl_w (by decide) hw) rfl rfl iX4 0 (by decide) rfl f3 rfl dX4_addDraft_141 ?_
              refine z_iload E dX4_addDraft_144 rfl ?_
              refine z_iconst E dX4_addDraft_146 ?_
              refine z_callV E (ci := 0) (N := 4) (C := RX0) (T := TX0) (n := 2) (st := []) (vl_w (by decide) hw) rfl rfl [.int (iI (Vl_17 7 w (slot * 6 + k))), .int (iI 1)] (kX0_addUses l G P Vl_17 w (Vl_17 7 w (slot * 6 + k)) 1 hw hBl_17 (by omega) (by omega) (by rw [q3]; have := hUl; have := this ((Vl_17 7 w (slot * 6 + k))); omega)) gX4_addDraft_X0_addUses rfl ⟨rfl, rfl⟩ (by decide +kernel) ⟨Nat.le_of_ble_eq_true rfl, Nat.le_of_ble_eq_true rfl⟩ rfl rfl (Nat.le_of_ble_eq_true rfl) rfl dX4_addDraft_147 (z_exV (fun P_13 V_13 h_13 => ?_))
              obtain ⟨hP_13, hB_13, h_13⟩ := h_13
              rw [hP_13]
              have hus := h_13
              have q4 : V_13 4 w = Vl_17 4 w := by rw [h_13]; exact q4
              have q7 : V_13 7 w = Vl_17 7 w := by rw [h_13]; exact q7
              have g43b : V_13 4 w 3 = V 4 w 3 := by rw [q4, g43]
              refine z_aload_n E dX4_addDraft_150 0 rfl rfl ?_
              refine z_get E (ci := 4) (N := 6) (C := RX4) (T := TX4) (vl_w (by decide) hw) rfl rfl iX4 1 (by decide) rfl f0 rfl dX4_addDraft_151 ?_
              refine z_get E (ci := 3) (N := 5) (C := RX3) (T := TX3) (vl_w (by decide) hw) rfl rfl iX3 2 (by decide) rfl f5 rfl dX4_addDraft_154 ?_
              refine z_aload_n E dX4_addDraft_157 0 rfl rfl ?_
              refine z_get E (ci := 4) (N := 6) (C := RX4) (T := TX4) (vl_w (by decide) hw) rfl rfl iX4 1 (by decide) rfl f0 rfl dX4_addDraft_158 ?_
              have hr_14 := hB_13.g 4 w 3 rfl
              refine z_get E (ci := 3) (N := 5) (C := RX3) (T := TX3) (vl_w (by decide) hw) rfl rfl iX3 3 (by decide) rfl f1 rfl dX4_addDraft_161 ?_
              refine z_bipush E dX4_addDraft_164 rfl ?_
              refine z_imul E dX4_addDraft_166 ?_
              refine z_iload_n E dX4_addDraft_167 3 rfl rfl ?_
              refine z_iadd E dX4_addDraft_168 ?_
              refine z_iload E dX4_addDraft_169 rfl ?_
              refine z_iast E (vl_w (by decide) hw) 96 (fun _ => rfl) (by omega) (by omega) (by omega) dX4_addDraft_171 ?_
              obtain ⟨V15, hV15⟩ : ∃ Z : Vt, Z = up V_13 7 w (updI (V_13 7 w) (((V_13 4 w 3) * 6) + k) (Vl_17 7 w (slot * 6 + k))) := ⟨_, rfl⟩
              rw [← hV15]
              have hB15 : BV V15 := hV15 ▸ BV_up hB_13 (by intro _; omega)
              have hw_171 := hV15
              refine z_iinc E k dX4_addDraft_172 (L' := [some (.ref (ad G 0 w)), some (.int (iI branch)), some (.int (iI slot)), some (.int (iI (k + 1))), some (.int (iI (k * 8))), some (.int (iI (Vl_17 7 w (slot * 6 + k)))), none]) (Nat.le_of_ble_eq_true rfl) rfl rfl ?_
              refine z_goto E 17 dX4_addDraft_175 rfl ?_
              refine Kz.drop 4 (L' := [some (.ref (ad G 0 w)), some (.int (iI branch)), some (.int (iI slot)), some (.int (iI (k + 1))), none, some (.int (iI (Vl_17 7 w (slot * 6 + k)))), none]) rfl ?_
              refine Kz.drop 5 (L' := [some (.ref (ad G 0 w)), some (.int (iI branch)), some (.int (iI slot)), some (.int (iI (k + 1))), none, none, none]) rfl ?_
              have adr : adR w slot Vl_17 k.toNat V15 := by unfold adR; rw [Int.toNat_of_nonneg hk0]; first | (exfalso; omega) | exact Or.inl ⟨by assumption, by rw [hw_171, hus] <;> rfl⟩ | exact Or.inr (Or.inl ⟨by assumption, by assumption, by assumption, by rw [hw_171, hus, ht_104] <;> rfl⟩) | (rcases hmk with ⟨z, _, _⟩ | ⟨z0, z1, z2, z3, z4⟩; (exfalso; omega); exact Or.inr (Or.inr ⟨by assumption, by first | exact Or.inl (by assumption) | exact Or.inr (by unfold adF; omega), _, z0, z1, htid ▸ z2, htid ▸ z3, by rw [hw_171, hus, z4, htid] <;> rfl⟩)) 
              exact ih_17 (k + 1) V15 hB15 (by omega) (by omega) (by rw [show (k + 1).toNat = k.toNat + 1 by omega]; exact ⟨Vl_17, hch, adr⟩) (fun r z1 z2 z3 z7 => (adR_fr adr r z1 z2 z3 z7).trans (hfr r z1 z2 z3 z7)) (adR_L adr hLl) (fun j => by have := adR_U adr hLl hUl j; omega) (by omega)
            · skip
              refine z_ldc E (-1000003) f6 rfl dX4_addDraft_137 ?_
              exact z_iret E Er0 dX4_addDraft_139 (by first | (exfalso; omega) | (rcases hmk with ⟨_, hv, hno⟩ | z; exact ⟨rfl, hBl_17, by rw [hv, htid]; exact adC_fR hch, Or.inl ⟨rfl, Or.inr ⟨k.toNat, Vl_17, by omega, hch, by rw [Int.toNat_of_nonneg hk0]; assumption, by rw [Int.toNat_of_nonneg hk0]; first | exact Or.inl (by assumption) | exact Or.inr (by unfold adF; omega), htid ▸ hno⟩⟩⟩; exfalso; omega))
          · skip
            refine z_aload_n E dX4_addDraft_58 0 rfl rfl ?_
            have hr_16 := hBl_17.g0 w
            refine z_get E (ci := 4) (N := 6) (C := RX4) (T := TX4) (vl_w (by decide) hw) rfl rfl iX4 4 (by decide) rfl f7 rfl dX4_addDraft_59 ?_
            refine z_iconst E dX4_addDraft_62 ?_
            refine z_icmp_ne E 82 dX4_addDraft_63 rfl (by omega) (by omega) (fun c_17 => ?_) (fun c_17 => ?_)
            · skip
              refine z_iconst E dX4_addDraft_82 ?_
              refine z_istore E dX4_addDraft_83 (L' := [some (.ref (ad G 0 w)), some (.int (iI branch)), some (.int (iI slot)), some (.int (iI k)), some (.int (iI (k * 8))), some (.int (iI (Vl_17 7 w (slot * 6 + k)))), some (.int (iI (-1)))]) (Nat.le_of_ble_eq_true rfl) rfl ?_
              refine z_aload_n E dX4_addDraft_85 0 rfl rfl ?_
              refine z_get E (ci := 4) (N := 6) (C := RX4) (T := TX4) (vl_w (by decide) hw) rfl rfl iX4 0 (by decide) rfl f3 rfl dX4_addDraft_86 ?_
              refine z_dup E dX4_addDraft_89 rfl ?_
              refine z_get E (ci := 0) (N := 4) (C := RX0) (T := TX0) (vl_w (by decide) hw) rfl rfl iX0 3 (by decide) rfl f8 rfl dX4_addDraft_90 ?_
              refine z_iload E dX4_addDraft_93 rfl ?_
              refine z_if_lt E 102 dX4_addDraft_95 rfl (by omega) (fun _ => ?_) (fun c => absurd c (by decide))
              refine z_iconst E dX4_addDraft_102 ?_
              refine z_iadd E dX4_addDraft_103 ?_
              refine z_put E (ci := 0) (N := 4) (C := RX0) (T := TX0) (ty := .int) (vl_w (by decide) hw) (updI (Vl_17 1 w) 3 ((Vl_17 1 w 3) + 0)) rfl rfl iX0 tyX0 tyX0_ok nmX0 3 (by decide) rfl f8 rfl rfl rfl rfl (Nat.le_of_ble_eq_true rfl) rfl dX4_addDraft_104 ?_
              obtain ⟨V19, hV19⟩ : ∃ Z : Vt, Z = up Vl_17 1 w (updI (Vl_17 1 w) 3 ((Vl_17 1 w 3) + 0)) := ⟨_, rfl⟩
              rw [← hV19]
              have hB19 : BV V19 := hV19 ▸ BV_up hBl_17 (fun hz => absurd (Or.inl rfl) hz)
              have q3 : V19 3 w = Vl_17 3 w := by rw [hV19]; rfl
              have q4 : V19 4 w = Vl_17 4 w := by rw [hV19]; rfl
              have q7 : V19 7 w = Vl_17 7 w := by rw [hV19]; rfl
              have q9 : V19 9 w = Vl_17 9 w := by rw [hV19]; rfl
              have ht_104 := hV19
              try have htid : V19 = Vl_17 := by rw [hV19, Int.add_zero, updI_id, up_self]
              refine z_iload E dX4_addDraft_107 rfl ?_
              refine z_if_lt E 117 dX4_addDraft_109 rfl (by omega) (fun _ => ?_) (fun c => absurd c (by decide))
              refine z_aload_n E dX4_addDraft_117 0 rfl rfl ?_
              refine z_get E (ci := 4) (N := 6) (C := RX4) (T := TX4) (vl_w (by decide) hw) rfl rfl iX4 0 (by decide) rfl f3 rfl dX4_addDraft_118 ?_
              refine z_aload_n E dX4_addDraft_121 0 rfl rfl ?_
              refine z_get E (ci := 4) (N := 6) (C := RX4) (T := TX4) (vl_w (by decide) hw) rfl rfl iX4 3 (by decide) rfl f4 rfl dX4_addDraft_122 ?_
              refine z_iload E dX4_addDraft_125 rfl ?_
              refine z_callV E (ci := 0) (N := 4) (C := RX0) (T := TX0) (n := 2) (st := []) (vl_w (by decide) hw) rfl rfl [.ref (ad G 9 w), .int (iI (k * 8))] (kX0_make l G P V19 w (k * 8) hw hB19 (by omega) (by omega)) gX4_addDraft_X0_make rfl ⟨rfl, rfl⟩ (by decide +kernel) ⟨Nat.le_of_ble_eq_true rfl, Nat.le_of_ble_eq_true rfl⟩ rfl rfl (Nat.le_of_ble_eq_true rfl) rfl dX4_addDraft_127 (z_exI (fun r_21 P_21 V_21 h_21 => ?_))
              obtain ⟨hP_21, hB_21, h_21⟩ := h_21
              rw [hP_21]
              have hmk := h_21
              have hrr : r_21 = -1 ∨ (0 ≤ r_21 ∧ r_21 < 40) := by rcases h_21 with z | z <;> omega
              have q3 : V_21 3 w = Vl_17 3 w := by rcases h_21 with ⟨_, z, _⟩ | ⟨_, _, _, _, z⟩ <;> rw [z] <;> exact q3
              have q4 : V_21 4 w = Vl_17 4 w := by rcases h_21 with ⟨_, z, _⟩ | ⟨_, _, _, _, z⟩ <;> rw [z] <;> exact q4
              have q7 : V_21 7 w = Vl_17 7 w := by rcases h_21 with ⟨_, z, _⟩ | ⟨_, _, _, _, z⟩ <;> rw [z] <;> exact q7
              refine z_istore E dX4_addDraft_130 (L' := [some (.ref (ad G 0 w)), some (.int (iI branch)), some (.int (iI slot)), some (.int (iI k)), some (.int (iI (k * 8))), some (.int (iI r_21)), some (.int (iI (-1)))]) (Nat.le_of_ble_eq_true rfl) rfl ?_
              refine z_iload E dX4_addDraft_132 rfl ?_
              refine z_if_ge E 140 dX4_addDraft_134 rfl (by omega) (fun c_22 => ?_) (fun c_22 => ?_)
              · skip
                refine z_aload_n E dX4_addDraft_140 0 rfl rfl ?_
                refine z_get E (ci := 4) (N := 6) (C := RX4) (T := TX4) (vl_w (by decide) hw) rfl rfl iX4 0 (by decide) rfl f3 rfl dX4_addDraft_141 ?_
                refine z_iload E dX4_addDraft_144 rfl ?_
                refine z_iconst E dX4_addDraft_146 ?_
                refine z_callV E (ci := 0) (N := 4) (C := RX0) (T := TX0) (n := 2) (st := []) (vl_w (by decide) hw) rfl rfl [.int (iI r_21), .int (iI 1)] (kX0_addUses l G P V_21 w r_21 1 hw hB_21 (by omega) (by omega) (by rw [q3]; have := hUl; have := this (r_21); omega)) gX4_addDraft_X0_addUses rfl ⟨rfl, rfl⟩ (by decide +kernel) ⟨Nat.le_of_ble_eq_true rfl, Nat.le_of_ble_eq_true rfl⟩ rfl rfl (Nat.le_of_ble_eq_true rfl) rfl dX4_addDraft_147 (z_exV (fun P_23 V_23 h_23 => ?_))
                obtain ⟨hP_23, hB_23, h_23⟩ := h_23
                rw [hP_23]
                have hus := h_23
                have q4 : V_23 4 w = Vl_17 4 w := by rw [h_23]; exact q4
                have q7 : V_23 7 w = Vl_17 7 w := by rw [h_23]; exact q7
                have g43b : V_23 4 w 3 = V 4 w 3 := by rw [q4, g43]
                refine z_aload_n E dX4_addDraft_150 0 rfl rfl ?_
                refine z_get E (ci := 4) (N := 6) (C := RX4) (T := TX4) (vl_w (by decide) hw) rfl rfl iX4 1 (by decide) rfl f0 rfl dX4_addDraft_151 ?_
                refine z_get E (ci := 3) (N := 5) (C := RX3) (T := TX3) (vl_w (by decide) hw) rfl rfl iX3 2 (by decide) rfl f5 rfl dX4_addDraft_154 ?_
                refine z_aload_n E dX4_addDraft_157 0 rfl rfl ?_
                refine z_get E (ci := 4) (N := 6) (C := RX4) (T := TX4) (vl_w (by decide) hw) rfl rfl iX4 1 (by decide) rfl f0 rfl dX4_addDraft_158 ?_
                have hr_24 := hB_23.g 4 w 3 rfl
                refine z_get E (ci := 3) (N := 5) (C := RX3) (T := TX3) (vl_w (by decide) hw) rfl rfl iX3 3 (by decide) rfl f1 rfl dX4_addDraft_161 ?_
                refine z_bipush E dX4_addDraft_164 rfl ?_
                refine z_imul E dX4_addDraft_166 ?_
                refine z_iload_n E dX4_addDraft_167 3 rfl rfl ?_
                refine z_iadd E dX4_addDraft_168 ?_
                refine z_iload E dX4_addDraft_169 rfl ?_
                refine z_iast E (vl_w (by decide) hw) 96 (fun _ => rfl) (by omega) (by omega) (by omega) dX4_addDraft_171 ?_
                obtain ⟨V25, hV25⟩ : ∃ Z : Vt, Z = up V_23 7 w (updI (V_23 7 w) (((V_23 4 w 3) * 6) + k) r_21) := ⟨_, rfl⟩
                rw [← hV25]
                have hB25 : BV V25 := hV25 ▸ BV_up hB_23 (by intro _; omega)
                have hw_171 := hV25
                refine z_iinc E k dX4_addDraft_172 (L' := [some (.ref (ad G 0 w)), some (.int (iI branch)), some (.int (iI slot)), some (.int (iI (k + 1))), some (.int (iI (k * 8))), some (.int (iI r_21)), some (.int (iI (-1)))]) (Nat.le_of_ble_eq_true rfl) rfl rfl ?_
                refine z_goto E 17 dX4_addDraft_175 rfl ?_
                refine Kz.drop 4 (L' := [some (.ref (ad G 0 w)), some (.int (iI branch)), some (.int (iI slot)), some (.int (iI (k + 1))), none, some (.int (iI r_21)), some (.int (iI (-1)))]) rfl ?_
                refine Kz.drop 5 (L' := [some (.ref (ad G 0 w)), some (.int (iI branch)), some (.int (iI slot)), some (.int (iI (k + 1))), none, none, some (.int (iI (-1)))]) rfl ?_
                refine Kz.drop 6 (L' := [some (.ref (ad G 0 w)), some (.int (iI branch)), some (.int (iI slot)), some (.int (iI (k + 1))), none, none, none]) rfl ?_
                have adr : adR w slot Vl_17 k.toNat V25 := by unfold adR; rw [Int.toNat_of_nonneg hk0]; first | (exfalso; omega) | exact Or.inl ⟨by assumption, by rw [hw_171, hus] <;> rfl⟩ | exact Or.inr (Or.inl ⟨by assumption, by assumption, by assumption, by rw [hw_171, hus, ht_104] <;> rfl⟩) | (rcases hmk with ⟨z, _, _⟩ | ⟨z0, z1, z2, z3, z4⟩; (exfalso; omega); exact Or.inr (Or.inr ⟨by assumption, by first | exact Or.inl (by assumption) | exact Or.inr (by unfold adF; omega), _, z0, z1, htid ▸ z2, htid ▸ z3, by rw [hw_171, hus, z4, htid] <;> rfl⟩)) 
                exact ih_17 (k + 1) V25 hB25 (by omega) (by omega) (by rw [show (k + 1).toNat = k.toNat + 1 by omega]; exact ⟨Vl_17, hch, adr⟩) (fun r z1 z2 z3 z7 => (adR_fr adr r z1 z2 z3 z7).trans (hfr r z1 z2 z3 z7)) (adR_L adr hLl) (fun j => by have := adR_U adr hLl hUl j; omega) (by omega)
              · skip
                refine z_ldc E (-1000003) f6 rfl dX4_addDraft_137 ?_
                exact z_iret E Er0 dX4_addDraft_139 (by first | (exfalso; omega) | (rcases hmk with ⟨_, hv, hno⟩ | z; exact ⟨rfl, hB_21, by rw [hv, htid]; exact adC_fR hch, Or.inl ⟨rfl, Or.inr ⟨k.toNat, Vl_17, by omega, hch, by rw [Int.toNat_of_nonneg hk0]; assumption, by rw [Int.toNat_of_nonneg hk0]; first | exact Or.inl (by assumption) | exact Or.inr (by unfold adF; omega), htid ▸ hno⟩⟩⟩; exfalso; omega))
            · skip
              refine z_aload_n E dX4_addDraft_66 0 rfl rfl ?_
              refine z_get E (ci := 4) (N := 6) (C := RX4) (T := TX4) (vl_w (by decide) hw) rfl rfl iX4 0 (by decide) rfl f3 rfl dX4_addDraft_67 ?_
              refine z_aload_n E dX4_addDraft_70 0 rfl rfl ?_
              refine z_get E (ci := 4) (N := 6) (C := RX4) (T := TX4) (vl_w (by decide) hw) rfl rfl iX4 3 (by decide) rfl f4 rfl dX4_addDraft_71 ?_
              refine z_iload E dX4_addDraft_74 rfl ?_
              refine z_callV E (ci := 0) (N := 4) (C := RX0) (T := TX0) (n := 2) (st := []) (vl_w (by decide) hw) rfl rfl [.ref (ad G 9 w), .int (iI (k * 8))] (kX0_lowestHolding l G P Vl_17 w 9 48 (k * 8) hw hBl_17 (by omega) (by omega) (by omega)) gX4_addDraft_X0_lowestHolding rfl ⟨rfl, rfl⟩ (by decide +kernel) ⟨Nat.le_of_ble_eq_true rfl, Nat.le_of_ble_eq_true rfl⟩ rfl rfl (Nat.le_of_ble_eq_true rfl) rfl dX4_addDraft_76 (z_dtI ?_)
              have h_26a := fnd_bd 40 (fun b => Vl_17 3 w b ≠ 0 ∧ eq8 (Vl_17 2 w) (Vl_17 9 w) (b * 8) (k * 8)) (by omega)
              refine z_goto E 83 dX4_addDraft_79 rfl ?_
              refine z_istore E dX4_addDraft_83 (L' := [some (.ref (ad G 0 w)), some (.int (iI branch)), some (.int (iI slot)), some (.int (iI k)), some (.int (iI (k * 8))), some (.int (iI (Vl_17 7 w (slot * 6 + k)))), some (.int (iI (fnd 40 (fun b => Vl_17 3 w b ≠ 0 ∧ eq8 (Vl_17 2 w) (Vl_17 9 w) (b * 8) (k * 8)))))]) (Nat.le_of_ble_eq_true rfl) rfl ?_
              refine z_aload_n E dX4_addDraft_85 0 rfl rfl ?_
              refine z_get E (ci := 4) (N := 6) (C := RX4) (T := TX4) (vl_w (by decide) hw) rfl rfl iX4 0 (by decide) rfl f3 rfl dX4_addDraft_86 ?_
              refine z_dup E dX4_addDraft_89 rfl ?_
              refine z_get E (ci := 0) (N := 4) (C := RX0) (T := TX0) (vl_w (by decide) hw) rfl rfl iX0 3 (by decide) rfl f8 rfl dX4_addDraft_90 ?_
              refine z_iload E dX4_addDraft_93 rfl ?_
              refine z_if_lt E 102 dX4_addDraft_95 rfl (by omega) (fun c_27 => ?_) (fun c_27 => ?_)
              · skip
                refine z_iconst E dX4_addDraft_102 ?_
                refine z_iadd E dX4_addDraft_103 ?_
                refine z_put E (ci := 0) (N := 4) (C := RX0) (T := TX0) (ty := .int) (vl_w (by decide) hw) (updI (Vl_17 1 w) 3 ((Vl_17 1 w 3) + 0)) rfl rfl iX0 tyX0 tyX0_ok nmX0 3 (by decide) rfl f8 rfl rfl rfl rfl (Nat.le_of_ble_eq_true rfl) rfl dX4_addDraft_104 ?_
                obtain ⟨V28, hV28⟩ : ∃ Z : Vt, Z = up Vl_17 1 w (updI (Vl_17 1 w) 3 ((Vl_17 1 w 3) + 0)) := ⟨_, rfl⟩
                rw [← hV28]
                have hB28 : BV V28 := hV28 ▸ BV_up hBl_17 (fun hz => absurd (Or.inl rfl) hz)
                have q3 : V28 3 w = Vl_17 3 w := by rw [hV28]; rfl
                have q4 : V28 4 w = Vl_17 4 w := by rw [hV28]; rfl
                have q7 : V28 7 w = Vl_17 7 w := by rw [hV28]; rfl
                have q9 : V28 9 w = Vl_17 9 w := by rw [hV28]; rfl
                have ht_104 := hV28
                try have htid : V28 = Vl_17 := by rw [hV28, Int.add_zero, updI_id, up_self]
                refine z_iload E dX4_addDraft_107 rfl ?_
                refine z_if_lt E 117 dX4_addDraft_109 rfl (by omega) (fun c_29 => ?_) (fun c_29 => ?_)
                · skip
                  refine z_aload_n E dX4_addDraft_117 0 rfl rfl ?_
                  refine z_get E (ci := 4) (N := 6) (C := RX4) (T := TX4) (vl_w (by decide) hw) rfl rfl iX4 0 (by decide) rfl f3 rfl dX4_addDraft_118 ?_
                  refine z_aload_n E dX4_addDraft_121 0 rfl rfl ?_
                  refine z_get E (ci := 4) (N := 6) (C := RX4) (T := TX4) (vl_w (by decide) hw) rfl rfl iX4 3 (by decide) rfl f4 rfl dX4_addDraft_122 ?_
                  refine z_iload E dX4_addDraft_125 rfl ?_
                  refine z_callV E (ci := 0) (N := 4) (C := RX0) (T := TX0) (n := 2) (st := []) (vl_w (by decide) hw) rfl rfl [.ref (ad G 9 w), .int (iI (k * 8))] (kX0_make l G P V28 w (k * 8) hw hB28 (by omega) (by omega)) gX4_addDraft_X0_make rfl ⟨rfl, rfl⟩ (by decide +kernel) ⟨Nat.le_of_ble_eq_true rfl, Nat.le_of_ble_eq_true rfl⟩ rfl rfl (Nat.le_of_ble_eq_true rfl) rfl dX4_addDraft_127 (z_exI (fun r_30 P_30 V_30 h_30 => ?_))
                  obtain ⟨hP_30, hB_30, h_30⟩ := h_30
                  rw [hP_30]
                  have hmk := h_30
                  have hrr : r_30 = -1 ∨ (0 ≤ r_30 ∧ r_30 < 40) := by rcases h_30 with z | z <;> omega
                  have q3 : V_30 3 w = Vl_17 3 w := by rcases h_30 with ⟨_, z, _⟩ | ⟨_, _, _, _, z⟩ <;> rw [z] <;> exact q3
                  have q4 : V_30 4 w = Vl_17 4 w := by rcases h_30 with ⟨_, z, _⟩ | ⟨_, _, _, _, z⟩ <;> rw [z] <;> exact q4
                  have q7 : V_30 7 w = Vl_17 7 w := by rcases h_30 with ⟨_, z, _⟩ | ⟨_, _, _, _, z⟩ <;> rw [z] <;> exact q7
                  refine z_istore E dX4_addDraft_130 (L' := [some (.ref (ad G 0 w)), some (.int (iI branch)), some (.int (iI slot)), some (.int (iI k)), some (.int (iI (k * 8))), some (.int (iI r_30)), some (.int (iI (fnd 40 (fun b => Vl_17 3 w b ≠ 0 ∧ eq8 (Vl_17 2 w) (Vl_17 9 w) (b * 8) (k * 8)))))]) (Nat.le_of_ble_eq_true rfl) rfl ?_
                  refine z_iload E dX4_addDraft_132 rfl ?_
                  refine z_if_ge E 140 dX4_addDraft_134 rfl (by omega) (fun c_31 => ?_) (fun c_31 => ?_)
                  · skip
                    refine z_aload_n E dX4_addDraft_140 0 rfl rfl ?_
                    refine z_get E (ci := 4) (N := 6) (C := RX4) (T := TX4) (vl_w (by decide) hw) rfl rfl iX4 0 (by decide) rfl f3 rfl dX4_addDraft_141 ?_
                    refine z_iload E dX4_addDraft_144 rfl ?_
                    refine z_iconst E dX4_addDraft_146 ?_
                    refine z_callV E (ci := 0) (N := 4) (C := RX0) (T := TX0) (n := 2) (st := []) (vl_w (by decide) hw) rfl rfl [.int (iI r_30), .int (iI 1)] (kX0_addUses l G P V_30 w r_30 1 hw hB_30 (by omega) (by omega) (by rw [q3]; have := hUl; have := this (r_30); omega)) gX4_addDraft_X0_addUses rfl ⟨rfl, rfl⟩ (by decide +kernel) ⟨Nat.le_of_ble_eq_true rfl, Nat.le_of_ble_eq_true rfl⟩ rfl rfl (Nat.le_of_ble_eq_true rfl) rfl dX4_addDraft_147 (z_exV (fun P_32 V_32 h_32 => ?_))
                    obtain ⟨hP_32, hB_32, h_32⟩ := h_32
                    rw [hP_32]
                    have hus := h_32
                    have q4 : V_32 4 w = Vl_17 4 w := by rw [h_32]; exact q4
                    have q7 : V_32 7 w = Vl_17 7 w := by rw [h_32]; exact q7
                    have g43b : V_32 4 w 3 = V 4 w 3 := by rw [q4, g43]
                    refine z_aload_n E dX4_addDraft_150 0 rfl rfl ?_
                    refine z_get E (ci := 4) (N := 6) (C := RX4) (T := TX4) (vl_w (by decide) hw) rfl rfl iX4 1 (by decide) rfl f0 rfl dX4_addDraft_151 ?_
                    refine z_get E (ci := 3) (N := 5) (C := RX3) (T := TX3) (vl_w (by decide) hw) rfl rfl iX3 2 (by decide) rfl f5 rfl dX4_addDraft_154 ?_
                    refine z_aload_n E dX4_addDraft_157 0 rfl rfl ?_
                    refine z_get E (ci := 4) (N := 6) (C := RX4) (T := TX4) (vl_w (by decide) hw) rfl rfl iX4 1 (by decide) rfl f0 rfl dX4_addDraft_158 ?_
                    have hr_33 := hB_32.g 4 w 3 rfl
                    refine z_get E (ci := 3) (N := 5) (C := RX3) (T := TX3) (vl_w (by decide) hw) rfl rfl iX3 3 (by decide) rfl f1 rfl dX4_addDraft_161 ?_
                    refine z_bipush E dX4_addDraft_164 rfl ?_
                    refine z_imul E dX4_addDraft_166 ?_
                    refine z_iload_n E dX4_addDraft_167 3 rfl rfl ?_
                    refine z_iadd E dX4_addDraft_168 ?_
                    refine z_iload E dX4_addDraft_169 rfl ?_
                    refine z_iast E (vl_w (by decide) hw) 96 (fun _ => rfl) (by omega) (by omega) (by omega) dX4_addDraft_171 ?_
                    obtain ⟨V34, hV34⟩ : ∃ Z : Vt, Z = up V_32 7 w (updI (V_32 7 w) (((V_32 4 w 3) * 6) + k) r_30) := ⟨_, rfl⟩
                    rw [← hV34]
                    have hB34 : BV V34 := hV34 ▸ BV_up hB_32 (by intro _; omega)
                    have hw_171 := hV34
                    refine z_iinc E k dX4_addDraft_172 (L' := [some (.ref (ad G 0 w)), some (.int (iI branch)), some (.int (iI slot)), some (.int (iI (k + 1))), some (.int (iI (k * 8))), some (.int (iI r_30)), some (.int (iI (fnd 40 (fun b => Vl_17 3 w b ≠ 0 ∧ eq8 (Vl_17 2 w) (Vl_17 9 w) (b * 8) (k * 8)))))]) (Nat.le_of_ble_eq_true rfl) rfl rfl ?_
                    refine z_goto E 17 dX4_addDraft_175 rfl ?_
                    refine Kz.drop 4 (L' := [some (.ref (ad G 0 w)), some (.int (iI branch)), some (.int (iI slot)), some (.int (iI (k + 1))), none, some (.int (iI r_30)), some (.int (iI (fnd 40 (fun b => Vl_17 3 w b ≠ 0 ∧ eq8 (Vl_17 2 w) (Vl_17 9 w) (b * 8) (k * 8)))))]) rfl ?_
                    refine Kz.drop 5 (L' := [some (.ref (ad G 0 w)), some (.int (iI branch)), some (.int (iI slot)), some (.int (iI (k + 1))), none, none, some (.int (iI (fnd 40 (fun b => Vl_17 3 w b ≠ 0 ∧ eq8 (Vl_17 2 w) (Vl_17 9 w) (b * 8) (k * 8)))))]) rfl ?_
                    refine Kz.drop 6 (L' := [some (.ref (ad G 0 w)), some (.int (iI branch)), some (.int (iI slot)), some (.int (iI (k + 1))), none, none, none]) rfl ?_
                    have adr : adR w slot Vl_17 k.toNat V34 := by unfold adR; rw [Int.toNat_of_nonneg hk0]; first | (exfalso; omega) | exact Or.inl ⟨by assumption, by rw [hw_171, hus] <;> rfl⟩ | exact Or.inr (Or.inl ⟨by assumption, by assumption, by assumption, by rw [hw_171, hus, ht_104] <;> rfl⟩) | (rcases hmk with ⟨z, _, _⟩ | ⟨z0, z1, z2, z3, z4⟩; (exfalso; omega); exact Or.inr (Or.inr ⟨by assumption, by first | exact Or.inl (by assumption) | exact Or.inr (by unfold adF; omega), _, z0, z1, htid ▸ z2, htid ▸ z3, by rw [hw_171, hus, z4, htid] <;> rfl⟩)) 
                    exact ih_17 (k + 1) V34 hB34 (by omega) (by omega) (by rw [show (k + 1).toNat = k.toNat + 1 by omega]; exact ⟨Vl_17, hch, adr⟩) (fun r z1 z2 z3 z7 => (adR_fr adr r z1 z2 z3 z7).trans (hfr r z1 z2 z3 z7)) (adR_L adr hLl) (fun j => by have := adR_U adr hLl hUl j; omega) (by omega)
                  · skip
                    refine z_ldc E (-1000003) f6 rfl dX4_addDraft_137 ?_
                    exact z_iret E Er0 dX4_addDraft_139 (by first | (exfalso; omega) | (rcases hmk with ⟨_, hv, hno⟩ | z; exact ⟨rfl, hB_30, by rw [hv, htid]; exact adC_fR hch, Or.inl ⟨rfl, Or.inr ⟨k.toNat, Vl_17, by omega, hch, by rw [Int.toNat_of_nonneg hk0]; assumption, by rw [Int.toNat_of_nonneg hk0]; first | exact Or.inl (by assumption) | exact Or.inr (by unfold adF; omega), htid ▸ hno⟩⟩⟩; exfalso; omega))
                · skip
                  refine z_iload E dX4_addDraft_112 rfl ?_
                  refine z_goto E 130 dX4_addDraft_114 rfl ?_
                  refine z_istore E dX4_addDraft_130 (L' := [some (.ref (ad G 0 w)), some (.int (iI branch)), some (.int (iI slot)), some (.int (iI k)), some (.int (iI (k * 8))), some (.int (iI (fnd 40 (fun b => Vl_17 3 w b ≠ 0 ∧ eq8 (Vl_17 2 w) (Vl_17 9 w) (b * 8) (k * 8))))), some (.int (iI (fnd 40 (fun b => Vl_17 3 w b ≠ 0 ∧ eq8 (Vl_17 2 w) (Vl_17 9 w) (b * 8) (k * 8)))))]) (Nat.le_of_ble_eq_true rfl) rfl ?_
                  refine z_iload E dX4_addDraft_132 rfl ?_
                  refine z_if_ge E 140 dX4_addDraft_134 rfl (by omega) (fun c_35 => ?_) (fun c_35 => ?_)
                  · skip
                    refine z_aload_n E dX4_addDraft_140 0 rfl rfl ?_
                    refine z_get E (ci := 4) (N := 6) (C := RX4) (T := TX4) (vl_w (by decide) hw) rfl rfl iX4 0 (by decide) rfl f3 rfl dX4_addDraft_141 ?_
                    refine z_iload E dX4_addDraft_144 rfl ?_
                    refine z_iconst E dX4_addDraft_146 ?_
                    refine z_callV E (ci := 0) (N := 4) (C := RX0) (T := TX0) (n := 2) (st := []) (vl_w (by decide) hw) rfl rfl [.int (iI (fnd 40 (fun b => Vl_17 3 w b ≠ 0 ∧ eq8 (Vl_17 2 w) (Vl_17 9 w) (b * 8) (k * 8)))), .int (iI 1)] (kX0_addUses l G P V28 w (fnd 40 (fun b => Vl_17 3 w b ≠ 0 ∧ eq8 (Vl_17 2 w) (Vl_17 9 w) (b * 8) (k * 8))) 1 hw hB28 (by omega) (by omega) (by rw [q3]; have := hUl; have := this ((fnd 40 (fun b => Vl_17 3 w b ≠ 0 ∧ eq8 (Vl_17 2 w) (Vl_17 9 w) (b * 8) (k * 8)))); omega)) gX4_addDraft_X0_addUses rfl ⟨rfl, rfl⟩ (by decide +kernel) ⟨Nat.le_of_ble_eq_true rfl, Nat.le_of_ble_eq_true rfl⟩ rfl rfl (Nat.le_of_ble_eq_true rfl) rfl dX4_addDraft_147 (z_exV (fun P_36 V_36 h_36 => ?_))
                    obtain ⟨hP_36, hB_36, h_36⟩ := h_36
                    rw [hP_36]
                    have hus := h_36
                    have q4 : V_36 4 w = Vl_17 4 w := by rw [h_36]; exact q4
                    have q7 : V_36 7 w = Vl_17 7 w := by rw [h_36]; exact q7
                    have g43b : V_36 4 w 3 = V 4 w 3 := by rw [q4, g43]
                    refine z_aload_n E dX4_addDraft_150 0 rfl rfl ?_
                    refine z_get E (ci := 4) (N := 6) (C := RX4) (T := TX4) (vl_w (by decide) hw) rfl rfl iX4 1 (by decide) rfl f0 rfl dX4_addDraft_151 ?_
                    refine z_get E (ci := 3) (N := 5) (C := RX3) (T := TX3) (vl_w (by decide) hw) rfl rfl iX3 2 (by decide) rfl f5 rfl dX4_addDraft_154 ?_
                    refine z_aload_n E dX4_addDraft_157 0 rfl rfl ?_
                    refine z_get E (ci := 4) (N := 6) (C := RX4) (T := TX4) (vl_w (by decide) hw) rfl rfl iX4 1 (by decide) rfl f0 rfl dX4_addDraft_158 ?_
                    have hr_37 := hB_36.g 4 w 3 rfl
                    refine z_get E (ci := 3) (N := 5) (C := RX3) (T := TX3) (vl_w (by decide) hw) rfl rfl iX3 3 (by decide) rfl f1 rfl dX4_addDraft_161 ?_
                    refine z_bipush E dX4_addDraft_164 rfl ?_
                    refine z_imul E dX4_addDraft_166 ?_
                    refine z_iload_n E dX4_addDraft_167 3 rfl rfl ?_
                    refine z_iadd E dX4_addDraft_168 ?_
                    refine z_iload E dX4_addDraft_169 rfl ?_
                    refine z_iast E (vl_w (by decide) hw) 96 (fun _ => rfl) (by omega) (by omega) (by omega) dX4_addDraft_171 ?_
                    obtain ⟨V38, hV38⟩ : ∃ Z : Vt, Z = up V_36 7 w (updI (V_36 7 w) (((V_36 4 w 3) * 6) + k) (fnd 40 (fun b => Vl_17 3 w b ≠ 0 ∧ eq8 (Vl_17 2 w) (Vl_17 9 w) (b * 8) (k * 8)))) := ⟨_, rfl⟩
                    rw [← hV38]
                    have hB38 : BV V38 := hV38 ▸ BV_up hB_36 (by intro _; omega)
                    have hw_171 := hV38
                    refine z_iinc E k dX4_addDraft_172 (L' := [some (.ref (ad G 0 w)), some (.int (iI branch)), some (.int (iI slot)), some (.int (iI (k + 1))), some (.int (iI (k * 8))), some (.int (iI (fnd 40 (fun b => Vl_17 3 w b ≠ 0 ∧ eq8 (Vl_17 2 w) (Vl_17 9 w) (b * 8) (k * 8))))), some (.int (iI (fnd 40 (fun b => Vl_17 3 w b ≠ 0 ∧ eq8 (Vl_17 2 w) (Vl_17 9 w) (b * 8) (k * 8)))))]) (Nat.le_of_ble_eq_true rfl) rfl rfl ?_
                    refine z_goto E 17 dX4_addDraft_175 rfl ?_
                    refine Kz.drop 4 (L' := [some (.ref (ad G 0 w)), some (.int (iI branch)), some (.int (iI slot)), some (.int (iI (k + 1))), none, some (.int (iI (fnd 40 (fun b => Vl_17 3 w b ≠ 0 ∧ eq8 (Vl_17 2 w) (Vl_17 9 w) (b * 8) (k * 8))))), some (.int (iI (fnd 40 (fun b => Vl_17 3 w b ≠ 0 ∧ eq8 (Vl_17 2 w) (Vl_17 9 w) (b * 8) (k * 8)))))]) rfl ?_
                    refine Kz.drop 5 (L' := [some (.ref (ad G 0 w)), some (.int (iI branch)), some (.int (iI slot)), some (.int (iI (k + 1))), none, none, some (.int (iI (fnd 40 (fun b => Vl_17 3 w b ≠ 0 ∧ eq8 (Vl_17 2 w) (Vl_17 9 w) (b * 8) (k * 8)))))]) rfl ?_
                    refine Kz.drop 6 (L' := [some (.ref (ad G 0 w)), some (.int (iI branch)), some (.int (iI slot)), some (.int (iI (k + 1))), none, none, none]) rfl ?_
                    have adr : adR w slot Vl_17 k.toNat V38 := by unfold adR; rw [Int.toNat_of_nonneg hk0]; first | (exfalso; omega) | exact Or.inl ⟨by assumption, by rw [hw_171, hus] <;> rfl⟩ | exact Or.inr (Or.inl ⟨by assumption, by assumption, by assumption, by rw [hw_171, hus, ht_104] <;> rfl⟩) | (rcases hmk with ⟨z, _, _⟩ | ⟨z0, z1, z2, z3, z4⟩; (exfalso; omega); exact Or.inr (Or.inr ⟨by assumption, by first | exact Or.inl (by assumption) | exact Or.inr (by unfold adF; omega), _, z0, z1, htid ▸ z2, htid ▸ z3, by rw [hw_171, hus, z4, htid] <;> rfl⟩)) 
                    exact ih_17 (k + 1) V38 hB38 (by omega) (by omega) (by rw [show (k + 1).toNat = k.toNat + 1 by omega]; exact ⟨Vl_17, hch, adr⟩) (fun r z1 z2 z3 z7 => (adR_fr adr r z1 z2 z3 z7).trans (hfr r z1 z2 z3 z7)) (adR_L adr hLl) (fun j => by have := adR_U adr hLl hUl j; omega) (by omega)
                  · skip
                    refine z_ldc E (-1000003) f6 rfl dX4_addDraft_137 ?_
                    exact z_iret E Er0 dX4_addDraft_139 (by first | (exfalso; omega) | (rcases hmk with ⟨_, hv, hno⟩ | z; exact ⟨rfl, hB28, by rw [hv, htid]; exact adC_fR hch, Or.inl ⟨rfl, Or.inr ⟨k.toNat, Vl_17, by omega, hch, by rw [Int.toNat_of_nonneg hk0]; assumption, by rw [Int.toNat_of_nonneg hk0]; first | exact Or.inl (by assumption) | exact Or.inr (by unfold adF; omega), htid ▸ hno⟩⟩⟩; exfalso; omega))
              · skip
                refine z_iconst E dX4_addDraft_98 ?_
                refine z_goto E 103 dX4_addDraft_99 rfl ?_
                refine z_iadd E dX4_addDraft_103 ?_
                refine z_put E (ci := 0) (N := 4) (C := RX0) (T := TX0) (ty := .int) (vl_w (by decide) hw) (updI (Vl_17 1 w) 3 ((Vl_17 1 w 3) + 1)) rfl rfl iX0 tyX0 tyX0_ok nmX0 3 (by decide) rfl f8 rfl rfl rfl rfl (Nat.le_of_ble_eq_true rfl) rfl dX4_addDraft_104 ?_
                obtain ⟨V39, hV39⟩ : ∃ Z : Vt, Z = up Vl_17 1 w (updI (Vl_17 1 w) 3 ((Vl_17 1 w 3) + 1)) := ⟨_, rfl⟩
                rw [← hV39]
                have hB39 : BV V39 := hV39 ▸ BV_up hBl_17 (fun hz => absurd (Or.inl rfl) hz)
                have q3 : V39 3 w = Vl_17 3 w := by rw [hV39]; rfl
                have q4 : V39 4 w = Vl_17 4 w := by rw [hV39]; rfl
                have q7 : V39 7 w = Vl_17 7 w := by rw [hV39]; rfl
                have q9 : V39 9 w = Vl_17 9 w := by rw [hV39]; rfl
                have ht_104 := hV39
                try have htid : V39 = Vl_17 := by rw [hV39, Int.add_zero, updI_id, up_self]
                refine z_iload E dX4_addDraft_107 rfl ?_
                refine z_if_lt E 117 dX4_addDraft_109 rfl (by omega) (fun c_40 => ?_) (fun c_40 => ?_)
                · skip
                  refine z_aload_n E dX4_addDraft_117 0 rfl rfl ?_
                  refine z_get E (ci := 4) (N := 6) (C := RX4) (T := TX4) (vl_w (by decide) hw) rfl rfl iX4 0 (by decide) rfl f3 rfl dX4_addDraft_118 ?_
                  refine z_aload_n E dX4_addDraft_121 0 rfl rfl ?_
                  refine z_get E (ci := 4) (N := 6) (C := RX4) (T := TX4) (vl_w (by decide) hw) rfl rfl iX4 3 (by decide) rfl f4 rfl dX4_addDraft_122 ?_
                  refine z_iload E dX4_addDraft_125 rfl ?_
                  refine z_callV E (ci := 0) (N := 4) (C := RX0) (T := TX0) (n := 2) (st := []) (vl_w (by decide) hw) rfl rfl [.ref (ad G 9 w), .int (iI (k * 8))] (kX0_make l G P V39 w (k * 8) hw hB39 (by omega) (by omega)) gX4_addDraft_X0_make rfl ⟨rfl, rfl⟩ (by decide +kernel) ⟨Nat.le_of_ble_eq_true rfl, Nat.le_of_ble_eq_true rfl⟩ rfl rfl (Nat.le_of_ble_eq_true rfl) rfl dX4_addDraft_127 (z_exI (fun r_41 P_41 V_41 h_41 => ?_))
                  obtain ⟨hP_41, hB_41, h_41⟩ := h_41
                  rw [hP_41]
                  have hmk := h_41
                  have hrr : r_41 = -1 ∨ (0 ≤ r_41 ∧ r_41 < 40) := by rcases h_41 with z | z <;> omega
                  have q3 : V_41 3 w = Vl_17 3 w := by rcases h_41 with ⟨_, z, _⟩ | ⟨_, _, _, _, z⟩ <;> rw [z] <;> exact q3
                  have q4 : V_41 4 w = Vl_17 4 w := by rcases h_41 with ⟨_, z, _⟩ | ⟨_, _, _, _, z⟩ <;> rw [z] <;> exact q4
                  have q7 : V_41 7 w = Vl_17 7 w := by rcases h_41 with ⟨_, z, _⟩ | ⟨_, _, _, _, z⟩ <;> rw [z] <;> exact q7
                  refine z_istore E dX4_addDraft_130 (L' := [some (.ref (ad G 0 w)), some (.int (iI branch)), some (.int (iI slot)), some (.int (iI k)), some (.int (iI (k * 8))), some (.int (iI r_41)), some (.int (iI (fnd 40 (fun b => Vl_17 3 w b ≠ 0 ∧ eq8 (Vl_17 2 w) (Vl_17 9 w) (b * 8) (k * 8)))))]) (Nat.le_of_ble_eq_true rfl) rfl ?_
                  refine z_iload E dX4_addDraft_132 rfl ?_
                  refine z_if_ge E 140 dX4_addDraft_134 rfl (by omega) (fun c_42 => ?_) (fun c_42 => ?_)
                  · skip
                    refine z_aload_n E dX4_addDraft_140 0 rfl rfl ?_
                    refine z_get E (ci := 4) (N := 6) (C := RX4) (T := TX4) (vl_w (by decide) hw) rfl rfl iX4 0 (by decide) rfl f3 rfl dX4_addDraft_141 ?_
                    refine z_iload E dX4_addDraft_144 rfl ?_
                    refine z_iconst E dX4_addDraft_146 ?_
                    refine z_callV E (ci := 0) (N := 4) (C := RX0) (T := TX0) (n := 2) (st := []) (vl_w (by decide) hw) rfl rfl [.int (iI r_41), .int (iI 1)] (kX0_addUses l G P V_41 w r_41 1 hw hB_41 (by omega) (by omega) (by rw [q3]; have := hUl; have := this (r_41); omega)) gX4_addDraft_X0_addUses rfl ⟨rfl, rfl⟩ (by decide +kernel) ⟨Nat.le_of_ble_eq_true rfl, Nat.le_of_ble_eq_true rfl⟩ rfl rfl (Nat.le_of_ble_eq_true rfl) rfl dX4_addDraft_147 (z_exV (fun P_43 V_43 h_43 => ?_))
                    obtain ⟨hP_43, hB_43, h_43⟩ := h_43
                    rw [hP_43]
                    have hus := h_43
                    have q4 : V_43 4 w = Vl_17 4 w := by rw [h_43]; exact q4
                    have q7 : V_43 7 w = Vl_17 7 w := by rw [h_43]; exact q7
                    have g43b : V_43 4 w 3 = V 4 w 3 := by rw [q4, g43]
                    refine z_aload_n E dX4_addDraft_150 0 rfl rfl ?_
                    refine z_get E (ci := 4) (N := 6) (C := RX4) (T := TX4) (vl_w (by decide) hw) rfl rfl iX4 1 (by decide) rfl f0 rfl dX4_addDraft_151 ?_
                    refine z_get E (ci := 3) (N := 5) (C := RX3) (T := TX3) (vl_w (by decide) hw) rfl rfl iX3 2 (by decide) rfl f5 rfl dX4_addDraft_154 ?_
                    refine z_aload_n E dX4_addDraft_157 0 rfl rfl ?_
                    refine z_get E (ci := 4) (N := 6) (C := RX4) (T := TX4) (vl_w (by decide) hw) rfl rfl iX4 1 (by decide) rfl f0 rfl dX4_addDraft_158 ?_
                    have hr_44 := hB_43.g 4 w 3 rfl
                    refine z_get E (ci := 3) (N := 5) (C := RX3) (T := TX3) (vl_w (by decide) hw) rfl rfl iX3 3 (by decide) rfl f1 rfl dX4_addDraft_161 ?_
                    refine z_bipush E dX4_addDraft_164 rfl ?_
                    refine z_imul E dX4_addDraft_166 ?_
                    refine z_iload_n E dX4_addDraft_167 3 rfl rfl ?_
                    refine z_iadd E dX4_addDraft_168 ?_
                    refine z_iload E dX4_addDraft_169 rfl ?_
                    refine z_iast E (vl_w (by decide) hw) 96 (fun _ => rfl) (by omega) (by omega) (by omega) dX4_addDraft_171 ?_
                    obtain ⟨V45, hV45⟩ : ∃ Z : Vt, Z = up V_43 7 w (updI (V_43 7 w) (((V_43 4 w 3) * 6) + k) r_41) := ⟨_, rfl⟩
                    rw [← hV45]
                    have hB45 : BV V45 := hV45 ▸ BV_up hB_43 (by intro _; omega)
                    have hw_171 := hV45
                    refine z_iinc E k dX4_addDraft_172 (L' := [some (.ref (ad G 0 w)), some (.int (iI branch)), some (.int (iI slot)), some (.int (iI (k + 1))), some (.int (iI (k * 8))), some (.int (iI r_41)), some (.int (iI (fnd 40 (fun b => Vl_17 3 w b ≠ 0 ∧ eq8 (Vl_17 2 w) (Vl_17 9 w) (b * 8) (k * 8)))))]) (Nat.le_of_ble_eq_true rfl) rfl rfl ?_
                    refine z_goto E 17 dX4_addDraft_175 rfl ?_
                    refine Kz.drop 4 (L' := [some (.ref (ad G 0 w)), some (.int (iI branch)), some (.int (iI slot)), some (.int (iI (k + 1))), none, some (.int (iI r_41)), some (.int (iI (fnd 40 (fun b => Vl_17 3 w b ≠ 0 ∧ eq8 (Vl_17 2 w) (Vl_17 9 w) (b * 8) (k * 8)))))]) rfl ?_
                    refine Kz.drop 5 (L' := [some (.ref (ad G 0 w)), some (.int (iI branch)), some (.int (iI slot)), some (.int (iI (k + 1))), none, none, some (.int (iI (fnd 40 (fun b => Vl_17 3 w b ≠ 0 ∧ eq8 (Vl_17 2 w) (Vl_17 9 w) (b * 8) (k * 8)))))]) rfl ?_
                    refine Kz.drop 6 (L' := [some (.ref (ad G 0 w)), some (.int (iI branch)), some (.int (iI slot)), some (.int (iI (k + 1))), none, none, none]) rfl ?_
                    have adr : adR w slot Vl_17 k.toNat V45 := by unfold adR; rw [Int.toNat_of_nonneg hk0]; first | (exfalso; omega) | exact Or.inl ⟨by assumption, by rw [hw_171, hus] <;> rfl⟩ | exact Or.inr (Or.inl ⟨by assumption, by assumption, by assumption, by rw [hw_171, hus, ht_104] <;> rfl⟩) | (rcases hmk with ⟨z, _, _⟩ | ⟨z0, z1, z2, z3, z4⟩; (exfalso; omega); exact Or.inr (Or.inr ⟨by assumption, by first | exact Or.inl (by assumption) | exact Or.inr (by unfold adF; omega), _, z0, z1, htid ▸ z2, htid ▸ z3, by rw [hw_171, hus, z4, htid] <;> rfl⟩)) 
                    exact ih_17 (k + 1) V45 hB45 (by omega) (by omega) (by rw [show (k + 1).toNat = k.toNat + 1 by omega]; exact ⟨Vl_17, hch, adr⟩) (fun r z1 z2 z3 z7 => (adR_fr adr r z1 z2 z3 z7).trans (hfr r z1 z2 z3 z7)) (adR_L adr hLl) (fun j => by have := adR_U adr hLl hUl j; omega) (by omega)
                  · skip
                    refine z_ldc E (-1000003) f6 rfl dX4_addDraft_137 ?_
                    exact z_iret E Er0 dX4_addDraft_139 (by first | (exfalso; omega) | (rcases hmk with ⟨_, hv, hno⟩ | z; exact ⟨rfl, hB_41, by rw [hv, htid]; exact adC_fR hch, Or.inl ⟨rfl, Or.inr ⟨k.toNat, Vl_17, by omega, hch, by rw [Int.toNat_of_nonneg hk0]; assumption, by rw [Int.toNat_of_nonneg hk0]; first | exact Or.inl (by assumption) | exact Or.inr (by unfold adF; omega), htid ▸ hno⟩⟩⟩; exfalso; omega))
                · skip
                  refine z_iload E dX4_addDraft_112 rfl ?_
                  refine z_goto E 130 dX4_addDraft_114 rfl ?_
                  refine z_istore E dX4_addDraft_130 (L' := [some (.ref (ad G 0 w)), some (.int (iI branch)), some (.int (iI slot)), some (.int (iI k)), some (.int (iI (k * 8))), some (.int (iI (fnd 40 (fun b => Vl_17 3 w b ≠ 0 ∧ eq8 (Vl_17 2 w) (Vl_17 9 w) (b * 8) (k * 8))))), some (.int (iI (fnd 40 (fun b => Vl_17 3 w b ≠ 0 ∧ eq8 (Vl_17 2 w) (Vl_17 9 w) (b * 8) (k * 8)))))]) (Nat.le_of_ble_eq_true rfl) rfl ?_
                  refine z_iload E dX4_addDraft_132 rfl ?_
                  refine z_if_ge E 140 dX4_addDraft_134 rfl (by omega) (fun c_46 => ?_) (fun c_46 => ?_)
                  · skip
                    refine z_aload_n E dX4_addDraft_140 0 rfl rfl ?_
                    refine z_get E (ci := 4) (N := 6) (C := RX4) (T := TX4) (vl_w (by decide) hw) rfl rfl iX4 0 (by decide) rfl f3 rfl dX4_addDraft_141 ?_
                    refine z_iload E dX4_addDraft_144 rfl ?_
                    refine z_iconst E dX4_addDraft_146 ?_
                    refine z_callV E (ci := 0) (N := 4) (C := RX0) (T := TX0) (n := 2) (st := []) (vl_w (by decide) hw) rfl rfl [.int (iI (fnd 40 (fun b => Vl_17 3 w b ≠ 0 ∧ eq8 (Vl_17 2 w) (Vl_17 9 w) (b * 8) (k * 8)))), .int (iI 1)] (kX0_addUses l G P V39 w (fnd 40 (fun b => Vl_17 3 w b ≠ 0 ∧ eq8 (Vl_17 2 w) (Vl_17 9 w) (b * 8) (k * 8))) 1 hw hB39 (by omega) (by omega) (by rw [q3]; have := hUl; have := this ((fnd 40 (fun b => Vl_17 3 w b ≠ 0 ∧ eq8 (Vl_17 2 w) (Vl_17 9 w) (b * 8) (k * 8)))); omega)) gX4_addDraft_X0_addUses rfl ⟨rfl, rfl⟩ (by decide +kernel) ⟨Nat.le_of_ble_eq_true rfl, Nat.le_of_ble_eq_true rfl⟩ rfl rfl (Nat.le_of_ble_eq_true rfl) rfl dX4_addDraft_147 (z_exV (fun P_47 V_47 h_47 => ?_))
                    obtain ⟨hP_47, hB_47, h_47⟩ := h_47
                    rw [hP_47]
                    have hus := h_47
                    have q4 : V_47 4 w = Vl_17 4 w := by rw [h_47]; exact q4
                    have q7 : V_47 7 w = Vl_17 7 w := by rw [h_47]; exact q7
                    have g43b : V_47 4 w 3 = V 4 w 3 := by rw [q4, g43]
                    refine z_aload_n E dX4_addDraft_150 0 rfl rfl ?_
                    refine z_get E (ci := 4) (N := 6) (C := RX4) (T := TX4) (vl_w (by decide) hw) rfl rfl iX4 1 (by decide) rfl f0 rfl dX4_addDraft_151 ?_
                    refine z_get E (ci := 3) (N := 5) (C := RX3) (T := TX3) (vl_w (by decide) hw) rfl rfl iX3 2 (by decide) rfl f5 rfl dX4_addDraft_154 ?_
                    refine z_aload_n E dX4_addDraft_157 0 rfl rfl ?_
                    refine z_get E (ci := 4) (N := 6) (C := RX4) (T := TX4) (vl_w (by decide) hw) rfl rfl iX4 1 (by decide) rfl f0 rfl dX4_addDraft_158 ?_
                    have hr_48 := hB_47.g 4 w 3 rfl
                    refine z_get E (ci := 3) (N := 5) (C := RX3) (T := TX3) (vl_w (by decide) hw) rfl rfl iX3 3 (by decide) rfl f1 rfl dX4_addDraft_161 ?_
                    refine z_bipush E dX4_addDraft_164 rfl ?_
                    refine z_imul E dX4_addDraft_166 ?_
                    refine z_iload_n E dX4_addDraft_167 3 rfl rfl ?_
                    refine z_iadd E dX4_addDraft_168 ?_
                    refine z_iload E dX4_addDraft_169 rfl ?_
                    refine z_iast E (vl_w (by decide) hw) 96 (fun _ => rfl) (by omega) (by omega) (by omega) dX4_addDraft_171 ?_
                    obtain ⟨V49, hV49⟩ : ∃ Z : Vt, Z = up V_47 7 w (updI (V_47 7 w) (((V_47 4 w 3) * 6) + k) (fnd 40 (fun b => Vl_17 3 w b ≠ 0 ∧ eq8 (Vl_17 2 w) (Vl_17 9 w) (b * 8) (k * 8)))) := ⟨_, rfl⟩
                    rw [← hV49]
                    have hB49 : BV V49 := hV49 ▸ BV_up hB_47 (by intro _; omega)
                    have hw_171 := hV49
                    refine z_iinc E k dX4_addDraft_172 (L' := [some (.ref (ad G 0 w)), some (.int (iI branch)), some (.int (iI slot)), some (.int (iI (k + 1))), some (.int (iI (k * 8))), some (.int (iI (fnd 40 (fun b => Vl_17 3 w b ≠ 0 ∧ eq8 (Vl_17 2 w) (Vl_17 9 w) (b * 8) (k * 8))))), some (.int (iI (fnd 40 (fun b => Vl_17 3 w b ≠ 0 ∧ eq8 (Vl_17 2 w) (Vl_17 9 w) (b * 8) (k * 8)))))]) (Nat.le_of_ble_eq_true rfl) rfl rfl ?_
                    refine z_goto E 17 dX4_addDraft_175 rfl ?_
                    refine Kz.drop 4 (L' := [some (.ref (ad G 0 w)), some (.int (iI branch)), some (.int (iI slot)), some (.int (iI (k + 1))), none, some (.int (iI (fnd 40 (fun b => Vl_17 3 w b ≠ 0 ∧ eq8 (Vl_17 2 w) (Vl_17 9 w) (b * 8) (k * 8))))), some (.int (iI (fnd 40 (fun b => Vl_17 3 w b ≠ 0 ∧ eq8 (Vl_17 2 w) (Vl_17 9 w) (b * 8) (k * 8)))))]) rfl ?_
                    refine Kz.drop 5 (L' := [some (.ref (ad G 0 w)), some (.int (iI branch)), some (.int (iI slot)), some (.int (iI (k + 1))), none, none, some (.int (iI (fnd 40 (fun b => Vl_17 3 w b ≠ 0 ∧ eq8 (Vl_17 2 w) (Vl_17 9 w) (b * 8) (k * 8)))))]) rfl ?_
                    refine Kz.drop 6 (L' := [some (.ref (ad G 0 w)), some (.int (iI branch)), some (.int (iI slot)), some (.int (iI (k + 1))), none, none, none]) rfl ?_
                    have adr : adR w slot Vl_17 k.toNat V49 := by unfold adR; rw [Int.toNat_of_nonneg hk0]; first | (exfalso; omega) | exact Or.inl ⟨by assumption, by rw [hw_171, hus] <;> rfl⟩ | exact Or.inr (Or.inl ⟨by assumption, by assumption, by assumption, by rw [hw_171, hus, ht_104] <;> rfl⟩) | (rcases hmk with ⟨z, _, _⟩ | ⟨z0, z1, z2, z3, z4⟩; (exfalso; omega); exact Or.inr (Or.inr ⟨by assumption, by first | exact Or.inl (by assumption) | exact Or.inr (by unfold adF; omega), _, z0, z1, htid ▸ z2, htid ▸ z3, by rw [hw_171, hus, z4, htid] <;> rfl⟩)) 
                    exact ih_17 (k + 1) V49 hB49 (by omega) (by omega) (by rw [show (k + 1).toNat = k.toNat + 1 by omega]; exact ⟨Vl_17, hch, adr⟩) (fun r z1 z2 z3 z7 => (adR_fr adr r z1 z2 z3 z7).trans (hfr r z1 z2 z3 z7)) (adR_L adr hLl) (fun j => by have := adR_U adr hLl hUl j; omega) (by omega)
                  · skip
                    refine z_ldc E (-1000003) f6 rfl dX4_addDraft_137 ?_
                    exact z_iret E Er0 dX4_addDraft_139 (by first | (exfalso; omega) | (rcases hmk with ⟨_, hv, hno⟩ | z; exact ⟨rfl, hB39, by rw [hv, htid]; exact adC_fR hch, Or.inl ⟨rfl, Or.inr ⟨k.toNat, Vl_17, by omega, hch, by rw [Int.toNat_of_nonneg hk0]; assumption, by rw [Int.toNat_of_nonneg hk0]; first | exact Or.inl (by assumption) | exact Or.inr (by unfold adF; omega), htid ▸ hno⟩⟩⟩; exfalso; omega))
    exact lp_17_3 ((6 - 0 : Int).toNat + 1) 0 V hB (by omega) (by omega) rfl (fun _ _ _ _ _ => rfl) hL (fun j => by have := hU j; omega) (Nat.lt_succ_self _)
  · skip
    refine z_ldc E (-1000003) f6 rfl dX4_addDraft_12 ?_
    exact z_iret E Er0 dX4_addDraft_14 (⟨rfl, hB, FR.rf, Or.inl ⟨rfl, Or.inl (by omega)⟩⟩)
