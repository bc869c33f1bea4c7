set_option maxHeartbeats 4000000 in
set_option maxRecDepth 100000 in
theorem kX5_isIndex (l : Launch) (G : Gl) (P : Nat → Nat) (V : Vt) (index : Int) (many : Int) (h1 : inR index) (h2 : inR many) : Met l yX5_isIndex wsX5_isIndex ({ frames := 0, cells := 0, slots := 0, locals := 0 }) (va_Pc [.int (iI index), .int (iI many)] (Sg G P V)) (Qk G mkI (dt (b2i (0 ≤ index ∧ index < many)) P V)) 0 0 (mem G) := by
  refine z_met (cc := cX5_isIndex) (nL := 2) (ret := (some .boolean)) (own := RX5) (by decide +kernel) rfl rfl (Nat.le_of_ble_eq_true rfl) (L := [some (.int (iI index)), some (.int (iI many))]) rfl ?_
  intro X E Er0
  refine z_iload_n E dX5_isIndex_0 0 rfl rfl ?_
  refine z_if_lt E 13 dX5_isIndex_1 rfl (by omega) (fun c_1 => ?_) (fun c_1 => ?_)
  · skip
    refine z_iconst E dX5_isIndex_13 ?_
    exact z_zret E Er0 dX5_isIndex_14 (by first | decide | omega) (by first | exact ⟨(b2i_t (by omega)).symm, rfl, rfl⟩ | exact ⟨(b2i_f (by omega)).symm, rfl, rfl⟩ | exact ⟨rfl, rfl, rfl⟩ | (exfalso; omega))
  · skip
    refine z_iload_n E dX5_isIndex_4 0 rfl rfl ?_
    refine z_iload_n E dX5_isIndex_5 1 rfl rfl ?_
    refine z_icmp_ge E 13 dX5_isIndex_6 rfl (by omega) (by omega) (fun c_2 => ?_) (fun c_2 => ?_)
    · skip
      refine z_iconst E dX5_isIndex_13 ?_
      exact z_zret E Er0 dX5_isIndex_14 (by first | decide | omega) (by first | exact ⟨(b2i_t (by omega)).symm, rfl, rfl⟩ | exact ⟨(b2i_f (by omega)).symm, rfl, rfl⟩ | exact ⟨rfl, rfl, rfl⟩ | (exfalso; omega))
    · skip
      refine z_iconst E dX5_isIndex_9 ?_
      refine z_goto E 14 dX5_isIndex_10 rfl ?_
      exact z_zret E Er0 dX5_isIndex_14 (by first | decide | omega) (by first | exact ⟨(b2i_t (by omega)).symm, rfl, rfl⟩ | exact ⟨(b2i_f (by omega)).symm, rfl, rfl⟩ | exact ⟨rfl, rfl, rfl⟩ | (exfalso; omega))

set_option maxHeartbeats 4000000 in
set_option maxRecDepth 100000 in
theorem kX5_foundOr (l : Launch) (G : Gl) (P : Nat → Nat) (V : Vt) (number : Int) (h1 : inR number) : Met l yX5_foundOr wsX5_foundOr ({ frames := 0, cells := 0, slots := 0, locals := 0 }) (va_Pc [.int (iI number)] (Sg G P V)) (Qk G mkI (dt (fO number) P V)) 0 0 (mem G) := by
  refine z_met (cc := cX5_foundOr) (nL := 1) (ret := (some .int)) (own := RX5) (by decide +kernel) rfl rfl (Nat.le_of_ble_eq_true rfl) (L := [some (.int (iI number))]) rfl ?_
  intro X E Er0
  have f0 : Cond.constant RX5 104 (-1000004) ∈ wsX5_foundOr := by decide +kernel
  refine z_iload_n E dX5_foundOr_0 0 rfl rfl ?_
  refine z_if_lt E 8 dX5_foundOr_1 rfl (by omega) (fun c_1 => ?_) (fun c_1 => ?_)
  · skip
    refine z_ldc E (-1000004) f0 rfl dX5_foundOr_8 ?_
    exact z_iret E Er0 dX5_foundOr_10 (by first | exact ⟨(fO_t (by omega)).symm, rfl, rfl⟩ | exact ⟨(fO_f (by omega)).symm, rfl, rfl⟩)
  · skip
    refine z_iload_n E dX5_foundOr_4 0 rfl rfl ?_
    refine z_goto E 10 dX5_foundOr_5 rfl ?_
    exact z_iret E Er0 dX5_foundOr_10 (by first | exact ⟨(fO_t (by omega)).symm, rfl, rfl⟩ | exact ⟨(fO_f (by omega)).symm, rfl, rfl⟩)

set_option maxHeartbeats 4000000 in
set_option maxRecDepth 100000 in
theorem kX5_isRange (l : Launch) (G : Gl) (P : Nat → Nat) (V : Vt) (first : Int) (many : Int) (h1 : inR first) (h2 : inR many) : Met l yX5_isRange wsX5_isRange ({ frames := 1, cells := 0, slots := 0, locals := 21 }) (va_Pc [.int (iI first), .int (iI many)] (Sg G P V)) (Qk G mkI (dt (b2i (0 ≤ first ∧ first < 48 ∧ 1 ≤ many ∧ many ≤ 48 - first)) P V)) 0 0 (mem G) := by
  refine z_met (cc := cX5_isRange) (nL := 2) (ret := (some .boolean)) (own := RX5) (by decide +kernel) rfl rfl (Nat.le_of_ble_eq_true rfl) (L := [some (.int (iI first)), some (.int (iI many))]) rfl ?_
  intro X E Er0
  refine z_iload_n E dX5_isRange_0 0 rfl rfl ?_
  refine z_bipush E dX5_isRange_1 rfl ?_
  refine z_callS E (n := 2) (st := []) [.int (iI first), .int (iI 48)] (kX5_isIndex l G P V first 48 (by omega) (by omega)) gX5_isRange_X5_isIndex rfl ⟨rfl, rfl⟩ (by decide +kernel) ⟨Nat.le_of_ble_eq_true rfl, Nat.le_of_ble_eq_true rfl⟩ rfl rfl (Nat.le_of_ble_eq_true rfl) rfl dX5_isRange_3 (z_dtI ?_)
  refine z_ifeq_b E 26 dX5_isRange_6 rfl (fun c_2 => ?_) (fun c_2 => ?_)
  · skip
    refine z_iconst E dX5_isRange_26 ?_
    exact z_zret E Er0 dX5_isRange_27 (by first | decide | omega) (by first | exact ⟨(b2i_t (by omega)).symm, rfl, rfl⟩ | exact ⟨(b2i_f (by omega)).symm, rfl, rfl⟩ | exact ⟨rfl, rfl, rfl⟩ | (exfalso; omega))
  · skip
    refine z_iload_n E dX5_isRange_9 1 rfl rfl ?_
    refine z_iconst E dX5_isRange_10 ?_
    refine z_icmp_lt E 26 dX5_isRange_11 rfl (by omega) (by omega) (fun c_3 => ?_) (fun c_3 => ?_)
    · skip
      refine z_iconst E dX5_isRange_26 ?_
      exact z_zret E Er0 dX5_isRange_27 (by first | decide | omega) (by first | exact ⟨(b2i_t (by omega)).symm, rfl, rfl⟩ | exact ⟨(b2i_f (by omega)).symm, rfl, rfl⟩ | exact ⟨rfl, rfl, rfl⟩ | (exfalso; omega))
    · skip
      refine z_iload_n E dX5_isRange_14 1 rfl rfl ?_
      refine z_bipush E dX5_isRange_15 rfl ?_
      refine z_iload_n E dX5_isRange_17 0 rfl rfl ?_
      refine z_isub E dX5_isRange_18 ?_
      refine z_icmp_gt E 26 dX5_isRange_19 rfl (by omega) (by omega) (fun c_4 => ?_) (fun c_4 => ?_)
      · skip
        refine z_iconst E dX5_isRange_26 ?_
        exact z_zret E Er0 dX5_isRange_27 (by first | decide | omega) (by first | exact ⟨(b2i_t (by omega)).symm, rfl, rfl⟩ | exact ⟨(b2i_f (by omega)).symm, rfl, rfl⟩ | exact ⟨rfl, rfl, rfl⟩ | (exfalso; omega))
      · skip
        refine z_iconst E dX5_isRange_22 ?_
        refine z_goto E 27 dX5_isRange_23 rfl ?_
        exact z_zret E Er0 dX5_isRange_27 (by first | decide | omega) (by first | exact ⟨(b2i_t (by omega)).symm, rfl, rfl⟩ | exact ⟨(b2i_f (by omega)).symm, rfl, rfl⟩ | exact ⟨rfl, rfl, rfl⟩ | (exfalso; omega))

set_option maxHeartbeats 4000000 in
set_option maxRecDepth 100000 in
theorem kX0_isThere (l : Launch) (G : Gl) (P : Nat → Nat) (V : Vt) (w : Nat) (block : Int) (hw : w < 6) (hB : BV V) (h1 : inR block) : Met l yX0_isThere wsX0_isThere ({ frames := 0, cells := 0, slots := 0, locals := 0 }) (va_Pc [.ref (ad G 1 w), .int (iI block)] (Sg G P V)) (Qk G mkI (dt (b2i (0 ≤ block ∧ block < 40 ∧ 0 < V 3 w block)) P V)) 0 0 (mem G) := by
  refine z_met (cc := cX0_isThere) (nL := 2) (ret := (some .boolean)) (own := RX0) (by decide +kernel) rfl rfl (Nat.le_of_ble_eq_true rfl) (L := [some (.ref (ad G 1 w)), some (.int (iI block))]) rfl ?_
  intro X E Er0
  have iX0 : ∀ x ∈ wsX00, x ∈ wsX0_isThere := by decide +kernel
  have f0 : Cond.fieldLink RX0 15 "SharedStates$Blocks" "uses" "[I" ∈ wsX0_isThere := by decide +kernel
  refine z_iload_n E dX0_isThere_0 1 rfl rfl ?_
  refine z_if_lt E 23 dX0_isThere_1 rfl (by omega) (fun c_1 => ?_) (fun c_1 => ?_)
  · skip
    refine z_iconst E dX0_isThere_23 ?_
    exact z_zret E Er0 dX0_isThere_24 (by first | decide | omega) (by first | exact ⟨(b2i_t (by omega)).symm, rfl, rfl⟩ | exact ⟨(b2i_f (by omega)).symm, rfl, rfl⟩ | exact ⟨rfl, rfl, rfl⟩ | (exfalso; omega))
  · skip
    refine z_iload_n E dX0_isThere_4 1 rfl rfl ?_
    refine z_bipush E dX0_isThere_5 rfl ?_
    refine z_icmp_ge E 23 dX0_isThere_7 rfl (by omega) (by omega) (fun c_2 => ?_) (fun c_2 => ?_)
    · skip
      refine z_iconst E dX0_isThere_23 ?_
      exact z_zret E Er0 dX0_isThere_24 (by first | decide | omega) (by first | exact ⟨(b2i_t (by omega)).symm, rfl, rfl⟩ | exact ⟨(b2i_f (by omega)).symm, rfl, rfl⟩ | exact ⟨rfl, rfl, rfl⟩ | (exfalso; omega))
    · skip
      refine z_aload_n E dX0_isThere_10 0 rfl rfl ?_
      refine z_get E (ci := 0) (N := 4) (C := RX0) (T := TX0) (vl_w (by decide) hw) rfl rfl iX0 1 (by decide) rfl f0 rfl dX0_isThere_11 ?_
      refine z_iload_n E dX0_isThere_14 1 rfl rfl ?_
      refine z_iald E (vl_w (by decide) hw) 40 rfl (by omega) (by omega) (by omega) dX0_isThere_15 ?_
      have hr_3 := hB.g 3 w block rfl
      refine z_if_le E 23 dX0_isThere_16 rfl (by omega) (fun c_4 => ?_) (fun c_4 => ?_)
      · skip
        refine z_iconst E dX0_isThere_23 ?_
        exact z_zret E Er0 dX0_isThere_24 (by first | decide | omega) (by first | exact ⟨(b2i_t (by omega)).symm, rfl, rfl⟩ | exact ⟨(b2i_f (by omega)).symm, rfl, rfl⟩ | exact ⟨rfl, rfl, rfl⟩ | (exfalso; omega))
      · skip
        refine z_iconst E dX0_isThere_19 ?_
        refine z_goto E 24 dX0_isThere_20 rfl ?_
        exact z_zret E Er0 dX0_isThere_24 (by first | decide | omega) (by first | exact ⟨(b2i_t (by omega)).symm, rfl, rfl⟩ | exact ⟨(b2i_f (by omega)).symm, rfl, rfl⟩ | exact ⟨rfl, rfl, rfl⟩ | (exfalso; omega))

set_option maxHeartbeats 4000000 in
set_option maxRecDepth 100000 in
theorem kX0_usesOf (l : Launch) (G : Gl) (P : Nat → Nat) (V : Vt) (w : Nat) (block : Int) (hw : w < 6) (hB : BV V) (h1 : 0 ≤ block) (h2 : block < 40) : Met l yX0_usesOf wsX0_usesOf ({ frames := 1, cells := 0, slots := 0, locals := 21 }) (va_Pc [.ref (ad G 1 w), .int (iI block)] (Sg G P V)) (Qk G mkI (dt (V 3 w block) P V)) 0 0 (mem G) := by
  refine z_met (cc := cX0_usesOf) (nL := 2) (ret := (some .int)) (own := RX0) (by decide +kernel) rfl rfl (Nat.le_of_ble_eq_true rfl) (L := [some (.ref (ad G 1 w)), some (.int (iI block))]) rfl ?_
  intro X E Er0
  have iX0 : ∀ x ∈ wsX00, x ∈ wsX0_usesOf := by decide +kernel
  have f0 : Cond.static yX5_isIndex ∈ wsX0_usesOf := by decide +kernel
  have f1 : Cond.initialized RX5 ∈ wsX0_usesOf := by decide +kernel
  have f2 : Cond.fieldLink RX0 15 "SharedStates$Blocks" "uses" "[I" ∈ wsX0_usesOf := by decide +kernel
  refine z_iload_n E dX0_usesOf_0 1 rfl rfl ?_
  refine z_bipush E dX0_usesOf_1 rfl ?_
  refine z_callN E (n := 2) (st := []) (host := "SharedStates") [.int (iI block), .int (iI 40)] (fun U h => nst_X0_31 h) f0 f1 (kX5_isIndex l G P V block 40 (by omega) (by omega)) gX0_usesOf_X5_isIndex_n31 rfl ⟨rfl, rfl⟩ (by decide +kernel) ⟨Nat.le_of_ble_eq_true rfl, Nat.le_of_ble_eq_true rfl⟩ rfl rfl (Nat.le_of_ble_eq_true rfl) rfl dX0_usesOf_3 (z_dtI ?_)
  refine z_ifeq_b E 18 dX0_usesOf_6 rfl (fun c_2 => ?_) (fun c_2 => ?_)
  · skip
    refine z_iconst E dX0_usesOf_18 ?_
    exact z_iret E Er0 dX0_usesOf_19 (by first | exact ⟨rfl, rfl, rfl⟩ | exact ⟨by omega, rfl, rfl⟩ | (exfalso; omega))
  · skip
    refine z_aload_n E dX0_usesOf_9 0 rfl rfl ?_
    refine z_get E (ci := 0) (N := 4) (C := RX0) (T := TX0) (vl_w (by decide) hw) rfl rfl iX0 1 (by decide) rfl f2 rfl dX0_usesOf_10 ?_
    refine z_iload_n E dX0_usesOf_13 1 rfl rfl ?_
    refine z_iald E (vl_w (by decide) hw) 40 rfl (by omega) (by omega) (by omega) dX0_usesOf_14 ?_
    have hr_3 := hB.g 3 w block rfl
    refine z_goto E 19 dX0_usesOf_15 rfl ?_
    exact z_iret E Er0 dX0_usesOf_19 (by first | exact ⟨rfl, rfl, rfl⟩ | exact ⟨by omega, rfl, rfl⟩ | (exfalso; omega))

set_option maxHeartbeats 4000000 in
set_option maxRecDepth 100000 in
theorem kX0_addUses (l : Launch) (G : Gl) (P : Nat → Nat) (V : Vt) (w : Nat) (block : Int) (many : Int) (hw : w < 6) (hB : BV V) (h1 : 0 ≤ block) (h2 : block < 40) (h3 : inR (V 3 w block + many)) : Met l yX0_addUses wsX0_addUses ({ frames := 1, cells := 0, slots := 0, locals := 21 }) (va_Pc [.ref (ad G 1 w), .int (iI block), .int (iI many)] (Sg G P V)) (Qk G mkV (fun r P' V' => P' = P ∧ BV V' ∧ V' = up V 3 w (updI (V 3 w) block (V 3 w block + many)))) 0 0 (mem G) := by
  refine z_met (cc := cX0_addUses) (nL := 3) (ret := none) (own := RX0) (by decide +kernel) rfl rfl (Nat.le_of_ble_eq_true rfl) (L := [some (.ref (ad G 1 w)), some (.int (iI block)), some (.int (iI many))]) rfl ?_
  intro X E Er0
  have iX0 : ∀ x ∈ wsX00, x ∈ wsX0_addUses := by decide +kernel
  have f0 : Cond.static yX5_isIndex ∈ wsX0_addUses := by decide +kernel
  have f1 : Cond.initialized RX5 ∈ wsX0_addUses := by decide +kernel
  have f2 : Cond.fieldLink RX0 15 "SharedStates$Blocks" "uses" "[I" ∈ wsX0_addUses := by decide +kernel
  refine z_iload_n E dX0_addUses_0 1 rfl rfl ?_
  refine z_bipush E dX0_addUses_1 rfl ?_
  refine z_callN E (n := 2) (st := []) (host := "SharedStates") [.int (iI block), .int (iI 40)] (fun U h => nst_X0_31 h) f0 f1 (kX5_isIndex l G P V block 40 (by omega) (by omega)) gX0_addUses_X5_isIndex_n31 rfl ⟨rfl, rfl⟩ (by decide +kernel) ⟨Nat.le_of_ble_eq_true rfl, Nat.le_of_ble_eq_true rfl⟩ rfl rfl (Nat.le_of_ble_eq_true rfl) rfl dX0_addUses_3 (z_dtI ?_)
  refine z_ifeq_b E 19 dX0_addUses_6 rfl (fun c_2 => ?_) (fun c_2 => ?_)
  · skip
    exact z_vret E Er0 dX0_addUses_19 (by first | (exfalso; omega) | exact ⟨rfl, hB, ⟩)
  · skip
    refine z_aload_n E dX0_addUses_9 0 rfl rfl ?_
    refine z_get E (ci := 0) (N := 4) (C := RX0) (T := TX0) (vl_w (by decide) hw) rfl rfl iX0 1 (by decide) rfl f2 rfl dX0_addUses_10 ?_
    refine z_iload_n E dX0_addUses_13 1 rfl rfl ?_
    refine z_dup2 E dX0_addUses_14 rfl rfl ?_
    refine z_iald E (vl_w (by decide) hw) 40 rfl (by omega) (by omega) (by omega) dX0_addUses_15 ?_
    have hr_3 := hB.g 3 w block rfl
    refine z_iload_n E dX0_addUses_16 2 rfl rfl ?_
    refine z_iadd E dX0_addUses_17 ?_
    refine z_iast E (vl_w (by decide) hw) 40 (fun _ => rfl) (by omega) (by omega) (by omega) dX0_addUses_18 ?_
    obtain ⟨V4, hV4⟩ : ∃ Z : Vt, Z = up V 3 w (updI (V 3 w) block ((V 3 w block) + many)) := ⟨_, rfl⟩
    rw [← hV4]
    have hB4 : BV V4 := hV4 ▸ BV_up hB (by intro _; omega)
    exact z_vret E Er0 dX0_addUses_19 (by first | (exfalso; omega) | exact ⟨rfl, hB4, hV4⟩)

set_option maxHeartbeats 4000000 in
set_option maxRecDepth 100000 in
theorem kX0_cellOf (l : Launch) (G : Gl) (P : Nat → Nat) (V : Vt) (w : Nat) (block : Int) (cell : Int) (hw : w < 6) (hB : BV V) (h1 : 0 ≤ block) (h2 : block < 40) (h3 : 0 ≤ cell) (h4 : cell < 8) : Met l yX0_cellOf wsX0_cellOf ({ frames := 0, cells := 0, slots := 0, locals := 0 }) (va_Pc [.ref (ad G 1 w), .int (iI block), .int (iI cell)] (Sg G P V)) (Qk G mkI (dt (V 2 w (block * 8 + cell)) P V)) 0 0 (mem G) := by
  refine z_met (cc := cX0_cellOf) (nL := 4) (ret := (some .int)) (own := RX0) (by decide +kernel) rfl rfl (Nat.le_of_ble_eq_true rfl) (L := [some (.ref (ad G 1 w)), some (.int (iI block)), some (.int (iI cell)), none]) rfl ?_
  intro X E Er0
  have iX0 : ∀ x ∈ wsX00, x ∈ wsX0_cellOf := by decide +kernel
  have f0 : Cond.fieldLink RX0 9 "SharedStates$Blocks" "cells" "[I" ∈ wsX0_cellOf := by decide +kernel
  refine z_iload_n E dX0_cellOf_0 1 rfl rfl ?_
  refine z_bipush E dX0_cellOf_1 rfl ?_
  refine z_imul E dX0_cellOf_3 ?_
  refine z_iload_n E dX0_cellOf_4 2 rfl rfl ?_
  refine z_iadd E dX0_cellOf_5 ?_
  refine z_istore_n E dX0_cellOf_6 3 rfl (L' := [some (.ref (ad G 1 w)), some (.int (iI block)), some (.int (iI cell)), some (.int (iI ((block * 8) + cell)))]) (Nat.le_of_ble_eq_true rfl) rfl ?_
  refine z_iload_n E dX0_cellOf_7 3 rfl rfl ?_
  refine z_if_lt E 29 dX0_cellOf_8 rfl (by omega) (fun c_1 => ?_) (fun c_1 => ?_)
  · skip
    refine z_iconst E dX0_cellOf_29 ?_
    exact z_iret E Er0 dX0_cellOf_30 (by first | exact ⟨rfl, rfl, rfl⟩ | exact ⟨by omega, rfl, rfl⟩ | (exfalso; omega))
  · skip
    refine z_iload_n E dX0_cellOf_11 3 rfl rfl ?_
    refine z_aload_n E dX0_cellOf_12 0 rfl rfl ?_
    refine z_get E (ci := 0) (N := 4) (C := RX0) (T := TX0) (vl_w (by decide) hw) rfl rfl iX0 0 (by decide) rfl f0 rfl dX0_cellOf_13 ?_
    refine z_alen E (vl_w (by decide) hw) 320 rfl dX0_cellOf_16 ?_
    refine z_icmp_ge E 29 dX0_cellOf_17 rfl (by omega) (by omega) (fun c_2 => ?_) (fun c_2 => ?_)
    · skip
      refine z_iconst E dX0_cellOf_29 ?_
      exact z_iret E Er0 dX0_cellOf_30 (by first | exact ⟨rfl, rfl, rfl⟩ | exact ⟨by omega, rfl, rfl⟩ | (exfalso; omega))
    · skip
      refine z_aload_n E dX0_cellOf_20 0 rfl rfl ?_
      refine z_get E (ci := 0) (N := 4) (C := RX0) (T := TX0) (vl_w (by decide) hw) rfl rfl iX0 0 (by decide) rfl f0 rfl dX0_cellOf_21 ?_
      refine z_iload_n E dX0_cellOf_24 3 rfl rfl ?_
      refine z_iald E (vl_w (by decide) hw) 320 rfl (by omega) (by omega) (by omega) dX0_cellOf_25 ?_
      have hr_3 := hB.g 2 w ((block * 8) + cell) rfl
      refine z_goto E 30 dX0_cellOf_26 rfl ?_
      exact z_iret E Er0 dX0_cellOf_30 (by first | exact ⟨rfl, rfl, rfl⟩ | exact ⟨by omega, rfl, rfl⟩ | (exfalso; omega))

set_option maxHeartbeats 4000000 in
set_option maxRecDepth 100000 in
theorem kX0_there (l : Launch) (G : Gl) (P : Nat → Nat) (V : Vt) (w : Nat) (hw : w < 6) (hB : BV V) : Met l yX0_there wsX0_there ({ frames := 1, cells := 0, slots := 0, locals := 21 }) (va_Pc [.ref (ad G 1 w)] (Sg G P V)) (Qk G mkI (dt (sm 40 (fun b => b2i (0 < V 3 w b))) P V)) 0 0 (mem G) := by
  refine z_met (cc := cX0_there) (nL := 3) (ret := (some .int)) (own := RX0) (by decide +kernel) rfl rfl (Nat.le_of_ble_eq_true rfl) (L := [some (.ref (ad G 1 w)), none, none]) rfl ?_
  intro X E Er0
  refine z_iconst E dX0_there_0 ?_
  refine z_istore_n E dX0_there_1 1 rfl (L' := [some (.ref (ad G 1 w)), some (.int (iI 0)), none]) (Nat.le_of_ble_eq_true rfl) rfl ?_
  refine z_iconst E dX0_there_2 ?_
  refine z_istore_n E dX0_there_3 2 rfl (L' := [some (.ref (ad G 1 w)), some (.int (iI 0)), some (.int (iI 0))]) (Nat.le_of_ble_eq_true rfl) rfl ?_
  have lp_4_1 : ∀ (fuel : Nat) (m : Int) (k : Int), (0 ≤ k) → (k ≤ 40) → (m = sm k (fun b => b2i (0 < V 3 w b))) → (40 - k : Int).toNat < fuel → Kz X G P V 0 0 [some (.ref (ad G 1 w)), some (.int (iI m)), some (.int (iI k))] 4 [] := by
    intro fuel
    induction fuel with
    | zero => intro m k hk0 hk1 hs hf_4; exact absurd hf_4 (Nat.not_lt_zero _)
    | succ fuel ih_4 =>
      intro m k hk0 hk1 hs hf_4
      refine z_iload_n E dX0_there_4 2 rfl rfl ?_
      refine z_bipush E dX0_there_5 rfl ?_
      refine z_icmp_ge E 32 dX0_there_7 rfl (by omega) (by omega) (fun c_2 => ?_) (fun c_2 => ?_)
      · skip
        refine z_iload_n E dX0_there_32 1 rfl rfl ?_
        exact z_iret E Er0 dX0_there_33 (⟨by rw [hs, show k = 40 by omega], rfl, rfl⟩)
      · skip
        refine z_iload_n E dX0_there_10 1 rfl rfl ?_
        refine z_aload_n E dX0_there_11 0 rfl rfl ?_
        refine z_iload_n E dX0_there_12 2 rfl rfl ?_
        refine z_callV E (ci := 0) (N := 4) (C := RX0) (T := TX0) (n := 1) (st := [.int (iI m)]) (vl_w (by decide) hw) rfl rfl [.int (iI k)] (kX0_isThere l G P V w k hw hB (by omega)) gX0_there_X0_isThere rfl ⟨rfl, rfl⟩ (by decide +kernel) ⟨Nat.le_of_ble_eq_true rfl, Nat.le_of_ble_eq_true rfl⟩ rfl rfl (Nat.le_of_ble_eq_true rfl) rfl dX0_there_13 (z_dtI ?_)
        refine z_ifeq_b E 23 dX0_there_16 rfl (fun c_4 => ?_) (fun c_4 => ?_)
        · skip
          refine z_iconst E dX0_there_23 ?_
          refine z_iadd E dX0_there_24 ?_
          refine z_istore_n E dX0_there_25 1 rfl (L' := [some (.ref (ad G 1 w)), some (.int (iI (m + 0))), some (.int (iI k))]) (Nat.le_of_ble_eq_true rfl) rfl ?_
          refine z_iinc E k dX0_there_26 (L' := [some (.ref (ad G 1 w)), some (.int (iI (m + 0))), some (.int (iI (k + 1)))]) (Nat.le_of_ble_eq_true rfl) rfl rfl ?_
          refine z_goto E 4 dX0_there_29 rfl ?_
          exact ih_4 (m + 0) (k + 1) (by omega) (by omega) (by first | exact smb_t hs (by omega) (by first | assumption | omega) | exact smb_f hs (by omega) (by first | assumption | omega) | exact smb_f0 hs (by omega) (by first | assumption | omega)) (by omega)
        · skip
          refine z_iconst E dX0_there_19 ?_
          refine z_goto E 24 dX0_there_20 rfl ?_
          refine z_iadd E dX0_there_24 ?_
          refine z_istore_n E dX0_there_25 1 rfl (L' := [some (.ref (ad G 1 w)), some (.int (iI (m + 1))), some (.int (iI k))]) (Nat.le_of_ble_eq_true rfl) rfl ?_
          refine z_iinc E k dX0_there_26 (L' := [some (.ref (ad G 1 w)), some (.int (iI (m + 1))), some (.int (iI (k + 1)))]) (Nat.le_of_ble_eq_true rfl) rfl rfl ?_
          refine z_goto E 4 dX0_there_29 rfl ?_
          exact ih_4 (m + 1) (k + 1) (by omega) (by omega) (by first | exact smb_t hs (by omega) (by first | assumption | omega) | exact smb_f hs (by omega) (by first | assumption | omega) | exact smb_f0 hs (by omega) (by first | assumption | omega)) (by omega)
  exact lp_4_1 ((40 - 0 : Int).toNat + 1) 0 0 (by omega) (by omega) (sm_0 (by omega)).symm (Nat.lt_succ_self _)

set_option maxHeartbeats 4000000 in
set_option maxRecDepth 100000 in
theorem kX0_holds (l : Launch) (G : Gl) (P : Nat → Nat) (V : Vt) (w : Nat) (block : Int) (ρ n : Nat) (start : Int) (hw : w < 6) (hB : BV V) (hρ : ρ = 9 ∧ n = 48 ∨ ρ = 2 ∧ n = 320) (h1 : 0 ≤ block) (h2 : block < 40) (h3 : 0 ≤ start) (h4 : start ≤ (n : Int) - 8) : Met l yX0_holds wsX0_holds ({ frames := 0, cells := 0, slots := 0, locals := 0 }) (va_Pc [.ref (ad G 1 w), .int (iI block), .ref (ad G ρ w), .int (iI start)] (Sg G P V)) (Qk G mkI (dt (b2i (V 3 w block ≠ 0 ∧ eq8 (V 2 w) (V ρ w) (block * 8) start)) P V)) 0 0 (mem G) := by
  refine z_met (cc := cX0_holds) (nL := 5) (ret := (some .boolean)) (own := RX0) (by decide +kernel) rfl rfl (Nat.le_of_ble_eq_true rfl) (L := [some (.ref (ad G 1 w)), some (.int (iI block)), some (.ref (ad G ρ w)), some (.int (iI start)), none]) rfl ?_
  intro X E Er0
  have iX0 : ∀ x ∈ wsX00, x ∈ wsX0_holds := by decide +kernel
  have f0 : Cond.fieldLink RX0 15 "SharedStates$Blocks" "uses" "[I" ∈ wsX0_holds := by decide +kernel
  have f1 : Cond.fieldLink RX0 9 "SharedStates$Blocks" "cells" "[I" ∈ wsX0_holds := by decide +kernel
  have vρ : vl G ρ w = true := by rcases hρ with ⟨rfl, rfl⟩ | ⟨rfl, rfl⟩ <;> exact vl_w (by decide) hw
  have eρ : ∀ f : Int → Int, cE G P f ρ w = aE G n f := by rcases hρ with ⟨rfl, rfl⟩ | ⟨rfl, rfl⟩ <;> exact fun _ => rfl
  have sρ : sfR ρ = true := by rcases hρ with ⟨rfl, rfl⟩ | ⟨rfl, rfl⟩ <;> rfl
  have hn : 48 ≤ n ∧ n ≤ 320 := by omega
  refine z_iload_n E dX0_holds_0 1 rfl rfl ?_
  refine z_if_lt E 19 dX0_holds_1 rfl (by omega) (fun c_1 => ?_) (fun c_1 => ?_)
  · skip
    refine z_iconst E dX0_holds_19 ?_
    exact z_zret E Er0 dX0_holds_20 (by first | decide | omega) (by first | (exfalso; omega) | exact ⟨(b2i_f (fun z => absurd z.1 (by omega))).symm, rfl, rfl⟩)
  · skip
    refine z_iload_n E dX0_holds_4 1 rfl rfl ?_
    refine z_bipush E dX0_holds_5 rfl ?_
    refine z_icmp_ge E 19 dX0_holds_7 rfl (by omega) (by omega) (fun c_2 => ?_) (fun c_2 => ?_)
    · skip
      refine z_iconst E dX0_holds_19 ?_
      exact z_zret E Er0 dX0_holds_20 (by first | decide | omega) (by first | (exfalso; omega) | exact ⟨(b2i_f (fun z => absurd z.1 (by omega))).symm, rfl, rfl⟩)
    · skip
      refine z_aload_n E dX0_holds_10 0 rfl rfl ?_
      refine z_get E (ci := 0) (N := 4) (C := RX0) (T := TX0) (vl_w (by decide) hw) rfl rfl iX0 1 (by decide) rfl f0 rfl dX0_holds_11 ?_
      refine z_iload_n E dX0_holds_14 1 rfl rfl ?_
      refine z_iald E (vl_w (by decide) hw) 40 rfl (by omega) (by omega) (by omega) dX0_holds_15 ?_
      have hr_3 := hB.g 3 w block rfl
      refine z_if_ne E 21 dX0_holds_16 rfl (by omega) (fun c_4 => ?_) (fun c_4 => ?_)
      · skip
        refine z_iload_n E dX0_holds_21 3 rfl rfl ?_
        refine z_if_lt E 34 dX0_holds_22 rfl (by omega) (fun c_5 => ?_) (fun c_5 => ?_)
        · skip
          refine z_iconst E dX0_holds_34 ?_
          exact z_zret E Er0 dX0_holds_35 (by first | decide | omega) (by first | (exfalso; omega) | exact ⟨(b2i_f (fun z => absurd z.1 (by omega))).symm, rfl, rfl⟩)
        · skip
          refine z_iload_n E dX0_holds_25 3 rfl rfl ?_
          refine z_aload_n E dX0_holds_26 2 rfl rfl ?_
          refine z_alen E vρ n (eρ _) dX0_holds_27 ?_
          refine z_bipush E dX0_holds_28 rfl ?_
          refine z_isub E dX0_holds_30 ?_
          refine z_icmp_le E 36 dX0_holds_31 rfl (by omega) (by omega) (fun c_6 => ?_) (fun c_6 => ?_)
          · skip
            refine z_iconst E dX0_holds_36 ?_
            refine z_istore E dX0_holds_37 (L' := [some (.ref (ad G 1 w)), some (.int (iI block)), some (.ref (ad G ρ w)), some (.int (iI start)), some (.int (iI 0))]) (Nat.le_of_ble_eq_true rfl) rfl ?_
            have lp_39_7 : ∀ (fuel : Nat) (i : Int), (0 ≤ i) → (i ≤ 8) → (∀ j, 0 ≤ j → j < i → V 2 w (block * 8 + j) = V ρ w (start + j)) → (8 - i : Int).toNat < fuel → Kz X G P V 0 0 [some (.ref (ad G 1 w)), some (.int (iI block)), some (.ref (ad G ρ w)), some (.int (iI start)), some (.int (iI i))] 39 [] := by
              intro fuel
              induction fuel with
              | zero => intro i hi0 hi1 hia hf_39; exact absurd hf_39 (Nat.not_lt_zero _)
              | succ fuel ih_39 =>
                intro i hi0 hi1 hia hf_39
                refine z_iload E dX0_holds_39 rfl ?_
                refine z_bipush E dX0_holds_41 rfl ?_
                refine z_icmp_ge E 75 dX0_holds_43 rfl (by omega) (by omega) (fun c_8 => ?_) (fun c_8 => ?_)
                · skip
                  refine z_iconst E dX0_holds_75 ?_
                  exact z_zret E Er0 dX0_holds_76 (by first | decide | omega) (⟨(b2i_t ⟨by omega, fun j h0 h1 => hia j h0 (by omega)⟩).symm, rfl, rfl⟩)
                · skip
                  refine z_aload_n E dX0_holds_46 0 rfl rfl ?_
                  refine z_get E (ci := 0) (N := 4) (C := RX0) (T := TX0) (vl_w (by decide) hw) rfl rfl iX0 0 (by decide) rfl f1 rfl dX0_holds_47 ?_
                  refine z_iload_n E dX0_holds_50 1 rfl rfl ?_
                  refine z_bipush E dX0_holds_51 rfl ?_
                  refine z_imul E dX0_holds_53 ?_
                  refine z_iload E dX0_holds_54 rfl ?_
                  refine z_iadd E dX0_holds_56 ?_
                  refine z_iald E (vl_w (by decide) hw) 320 rfl (by omega) (by omega) (by omega) dX0_holds_57 ?_
                  have hr_9 := hB.g 2 w ((block * 8) + i) rfl
                  refine z_aload_n E dX0_holds_58 2 rfl rfl ?_
                  refine z_iload_n E dX0_holds_59 3 rfl rfl ?_
                  refine z_iload E dX0_holds_60 rfl ?_
                  refine z_iadd E dX0_holds_62 ?_
                  refine z_iald E vρ n (eρ _) (by omega) (by omega) (by omega) dX0_holds_63 ?_
                  have hr_10 := hB.g ρ w (start + i) sρ
                  refine z_icmp_eq E 69 dX0_holds_64 rfl (by omega) (by omega) (fun c_11 => ?_) (fun c_11 => ?_)
                  · skip
                    refine z_iinc E i dX0_holds_69 (L' := [some (.ref (ad G 1 w)), some (.int (iI block)), some (.ref (ad G ρ w)), some (.int (iI start)), some (.int (iI (i + 1)))]) (Nat.le_of_ble_eq_true rfl) rfl rfl ?_
                    refine z_goto E 39 dX0_holds_72 rfl ?_
                    exact ih_39 (i + 1) (by omega) (by omega) (all_s hia (by assumption)) (by omega)
                  · skip
                    refine z_iconst E dX0_holds_67 ?_
                    exact z_zret E Er0 dX0_holds_68 (by first | decide | omega) (⟨(b2i_f (fun z => absurd (z.2 i hi0 (by omega)) (by assumption))).symm, rfl, rfl⟩)
            exact lp_39_7 ((8 - 0 : Int).toNat + 1) 0 (by omega) (by omega) all_0 (Nat.lt_succ_self _)
          · skip
            refine z_iconst E dX0_holds_34 ?_
            exact z_zret E Er0 dX0_holds_35 (by first | decide | omega) (by first | (exfalso; omega) | exact ⟨(b2i_f (fun z => absurd z.1 (by omega))).symm, rfl, rfl⟩)
      · skip
        refine z_iconst E dX0_holds_19 ?_
        exact z_zret E Er0 dX0_holds_20 (by first | decide | omega) (by first | (exfalso; omega) | exact ⟨(b2i_f (fun z => absurd z.1 (by omega))).symm, rfl, rfl⟩)

set_option maxHeartbeats 4000000 in
set_option maxRecDepth 100000 in
theorem kX0_lowestHolding (l : Launch) (G : Gl) (P : Nat → Nat) (V : Vt) (w : Nat) (ρ n : Nat) (start : Int) (hw : w < 6) (hB : BV V) (hρ : ρ = 9 ∧ n = 48 ∨ ρ = 2 ∧ n = 320) (h3 : 0 ≤ start) (h4 : start ≤ (n : Int) - 8) : Met l yX0_lowestHolding wsX0_lowestHolding ({ frames := 1, cells := 0, slots := 0, locals := 24 }) (va_Pc [.ref (ad G 1 w), .ref (ad G ρ w), .int (iI start)] (Sg G P V)) (Qk G mkI (dt (fnd 40 (fun b => V 3 w b ≠ 0 ∧ eq8 (V 2 w) (V ρ w) (b * 8) start)) P V)) 0 0 (mem G) := by
  refine z_met (cc := cX0_lowestHolding) (nL := 4) (ret := (some .int)) (own := RX0) (by decide +kernel) rfl rfl (Nat.le_of_ble_eq_true rfl) (L := [some (.ref (ad G 1 w)), some (.ref (ad G ρ w)), some (.int (iI start)), none]) rfl ?_
  intro X E Er0
  have vρ : vl G ρ w = true := by rcases hρ with ⟨rfl, rfl⟩ | ⟨rfl, rfl⟩ <;> exact vl_w (by decide) hw
  have eρ : ∀ f : Int → Int, cE G P f ρ w = aE G n f := by rcases hρ with ⟨rfl, rfl⟩ | ⟨rfl, rfl⟩ <;> exact fun _ => rfl
  have sρ : sfR ρ = true := by rcases hρ with ⟨rfl, rfl⟩ | ⟨rfl, rfl⟩ <;> rfl
  have hn : 48 ≤ n ∧ n ≤ 320 := by omega
  refine z_iconst E dX0_lowestHolding_0 ?_
  refine z_istore_n E dX0_lowestHolding_1 3 rfl (L' := [some (.ref (ad G 1 w)), some (.ref (ad G ρ w)), some (.int (iI start)), some (.int (iI 0))]) (Nat.le_of_ble_eq_true rfl) rfl ?_
  have lp_2_1 : ∀ (fuel : Nat) (k : Int), (0 ≤ k) → (k ≤ 40) → (∀ b, 0 ≤ b → b < k → ¬ (V 3 w b ≠ 0 ∧ eq8 (V 2 w) (V ρ w) (b * 8) start)) → (40 - k : Int).toNat < fuel → Kz X G P V 0 0 [some (.ref (ad G 1 w)), some (.ref (ad G ρ w)), some (.int (iI start)), some (.int (iI k))] 2 [] := by
    intro fuel
    induction fuel with
    | zero => intro k hk0 hk1 hla hf_2; exact absurd hf_2 (Nat.not_lt_zero _)
    | succ fuel ih_2 =>
      intro k hk0 hk1 hla hf_2
      refine z_iload_n E dX0_lowestHolding_2 3 rfl rfl ?_
      refine z_bipush E dX0_lowestHolding_3 rfl ?_
      refine z_icmp_ge E 26 dX0_lowestHolding_5 rfl (by omega) (by omega) (fun c_2 => ?_) (fun c_2 => ?_)
      · skip
        refine z_iconst E dX0_lowestHolding_26 ?_
        exact z_iret E Er0 dX0_lowestHolding_27 (by first | exact ⟨(fnd_y (by omega) (by omega) (by assumption) (by assumption)).symm, rfl, rfl⟩ | exact ⟨(fnd_n (fun j h0 h1 => hla j h0 (by omega))).symm, rfl, rfl⟩)
      · skip
        refine z_aload_n E dX0_lowestHolding_8 0 rfl rfl ?_
        refine z_iload_n E dX0_lowestHolding_9 3 rfl rfl ?_
        refine z_aload_n E dX0_lowestHolding_10 1 rfl rfl ?_
        refine z_iload_n E dX0_lowestHolding_11 2 rfl rfl ?_
        refine z_callV E (ci := 0) (N := 4) (C := RX0) (T := TX0) (n := 3) (st := []) (vl_w (by decide) hw) rfl rfl [.int (iI k), .ref (ad G ρ w), .int (iI start)] (kX0_holds l G P V w k ρ n start hw hB (by omega) (by omega) (by omega) (by omega) (by omega)) gX0_lowestHolding_X0_holds rfl ⟨rfl, rfl⟩ (by decide +kernel) ⟨Nat.le_of_ble_eq_true rfl, Nat.le_of_ble_eq_true rfl⟩ rfl rfl (Nat.le_of_ble_eq_true rfl) rfl dX0_lowestHolding_12 (z_dtI ?_)
        refine z_ifeq_b E 20 dX0_lowestHolding_15 rfl (fun c_4 => ?_) (fun c_4 => ?_)
        · skip
          refine z_iinc E k dX0_lowestHolding_20 (L' := [some (.ref (ad G 1 w)), some (.ref (ad G ρ w)), some (.int (iI start)), some (.int (iI (k + 1)))]) (Nat.le_of_ble_eq_true rfl) rfl rfl ?_
          refine z_goto E 2 dX0_lowestHolding_23 rfl ?_
          exact ih_2 (k + 1) (by omega) (by omega) (all_s hla (by assumption)) (by omega)
        · skip
          refine z_iload_n E dX0_lowestHolding_18 3 rfl rfl ?_
          exact z_iret E Er0 dX0_lowestHolding_19 (by first | exact ⟨(fnd_y (by omega) (by omega) (by assumption) (by assumption)).symm, rfl, rfl⟩ | exact ⟨(fnd_n (fun j h0 h1 => hla j h0 (by omega))).symm, rfl, rfl⟩)
  exact lp_2_1 ((40 - 0 : Int).toNat + 1) 0 (by omega) (by omega) all_0 (Nat.lt_succ_self _)

set_option maxHeartbeats 4000000 in
set_option maxRecDepth 100000 in
theorem kX0_lowestOtherLike (l : Launch) (G : Gl) (P : Nat → Nat) (V : Vt) (w : Nat) (block : Int) (hw : w < 6) (hB : BV V) (h1 : 0 ≤ block) (h2 : block < 40) : Met l yX0_lowestOtherLike wsX0_lowestOtherLike ({ frames := 1, cells := 0, slots := 0, locals := 24 }) (va_Pc [.ref (ad G 1 w), .int (iI block)] (Sg G P V)) (Qk G mkI (dt (fnd 40 (fun o => o ≠ block ∧ V 3 w o ≠ 0 ∧ eq8 (V 2 w) (V 2 w) (o * 8) (block * 8))) P V)) 0 0 (mem G) := by
  refine z_met (cc := cX0_lowestOtherLike) (nL := 3) (ret := (some .int)) (own := RX0) (by decide +kernel) rfl rfl (Nat.le_of_ble_eq_true rfl) (L := [some (.ref (ad G 1 w)), some (.int (iI block)), none]) rfl ?_
  intro X E Er0
  have iX0 : ∀ x ∈ wsX00, x ∈ wsX0_lowestOtherLike := by decide +kernel
  have f0 : Cond.fieldLink RX0 9 "SharedStates$Blocks" "cells" "[I" ∈ wsX0_lowestOtherLike := by decide +kernel
  refine z_iconst E dX0_lowestOtherLike_0 ?_
  refine z_istore_n E dX0_lowestOtherLike_1 2 rfl (L' := [some (.ref (ad G 1 w)), some (.int (iI block)), some (.int (iI 0))]) (Nat.le_of_ble_eq_true rfl) rfl ?_
  have lp_2_1 : ∀ (fuel : Nat) (k : Int), (0 ≤ k) → (k ≤ 40) → (∀ o, 0 ≤ o → o < k → ¬ (o ≠ block ∧ V 3 w o ≠ 0 ∧ eq8 (V 2 w) (V 2 w) (o * 8) (block * 8))) → (40 - k : Int).toNat < fuel → Kz X G P V 0 0 [some (.ref (ad G 1 w)), some (.int (iI block)), some (.int (iI k))] 2 [] := by
    intro fuel
    induction fuel with
    | zero => intro k hk0 hk1 hla hf_2; exact absurd hf_2 (Nat.not_lt_zero _)
    | succ fuel ih_2 =>
      intro k hk0 hk1 hla hf_2
      refine z_iload_n E dX0_lowestOtherLike_2 2 rfl rfl ?_
      refine z_bipush E dX0_lowestOtherLike_3 rfl ?_
      refine z_icmp_ge E 37 dX0_lowestOtherLike_5 rfl (by omega) (by omega) (fun c_2 => ?_) (fun c_2 => ?_)
      · skip
        refine z_iconst E dX0_lowestOtherLike_37 ?_
        exact z_iret E Er0 dX0_lowestOtherLike_38 (by first | exact ⟨(fnd_y (by omega) (by omega) ⟨by assumption, by assumption⟩ (by assumption)).symm, rfl, rfl⟩ | exact ⟨(fnd_n (fun j h0 h1 => hla j h0 (by omega))).symm, rfl, rfl⟩)
      · skip
        refine z_iload_n E dX0_lowestOtherLike_8 2 rfl rfl ?_
        refine z_iload_n E dX0_lowestOtherLike_9 1 rfl rfl ?_
        refine z_icmp_eq E 31 dX0_lowestOtherLike_10 rfl (by omega) (by omega) (fun c_3 => ?_) (fun c_3 => ?_)
        · skip
          refine z_iinc E k dX0_lowestOtherLike_31 (L' := [some (.ref (ad G 1 w)), some (.int (iI block)), some (.int (iI (k + 1)))]) (Nat.le_of_ble_eq_true rfl) rfl rfl ?_
          refine z_goto E 2 dX0_lowestOtherLike_34 rfl ?_
          exact ih_2 (k + 1) (by omega) (by omega) (all_s hla (by first | exact fun z => absurd (by assumption) z.1 | exact fun z => absurd z.2 (by assumption))) (by omega)
        · skip
          refine z_aload_n E dX0_lowestOtherLike_13 0 rfl rfl ?_
          refine z_iload_n E dX0_lowestOtherLike_14 2 rfl rfl ?_
          refine z_aload_n E dX0_lowestOtherLike_15 0 rfl rfl ?_
          refine z_get E (ci := 0) (N := 4) (C := RX0) (T := TX0) (vl_w (by decide) hw) rfl rfl iX0 0 (by decide) rfl f0 rfl dX0_lowestOtherLike_16 ?_
          refine z_iload_n E dX0_lowestOtherLike_19 1 rfl rfl ?_
          refine z_bipush E dX0_lowestOtherLike_20 rfl ?_
          refine z_imul E dX0_lowestOtherLike_22 ?_
          refine z_callV E (ci := 0) (N := 4) (C := RX0) (T := TX0) (n := 3) (st := []) (vl_w (by decide) hw) rfl rfl [.int (iI k), .ref (ad G 2 w), .int (iI (block * 8))] (kX0_holds l G P V w k 2 320 (block * 8) hw hB (by omega) (by omega) (by omega) (by omega) (by omega)) gX0_lowestOtherLike_X0_holds rfl ⟨rfl, rfl⟩ (by decide +kernel) ⟨Nat.le_of_ble_eq_true rfl, Nat.le_of_ble_eq_true rfl⟩ rfl rfl (Nat.le_of_ble_eq_true rfl) rfl dX0_lowestOtherLike_23 (z_dtI ?_)
          refine z_ifeq_b E 31 dX0_lowestOtherLike_26 rfl (fun c_5 => ?_) (fun c_5 => ?_)
          · skip
            refine z_iinc E k dX0_lowestOtherLike_31 (L' := [some (.ref (ad G 1 w)), some (.int (iI block)), some (.int (iI (k + 1)))]) (Nat.le_of_ble_eq_true rfl) rfl rfl ?_
            refine z_goto E 2 dX0_lowestOtherLike_34 rfl ?_
            exact ih_2 (k + 1) (by omega) (by omega) (all_s hla (by first | exact fun z => absurd (by assumption) z.1 | exact fun z => absurd z.2 (by assumption))) (by omega)
          · skip
            refine z_iload_n E dX0_lowestOtherLike_29 2 rfl rfl ?_
            exact z_iret E Er0 dX0_lowestOtherLike_30 (by first | exact ⟨(fnd_y (by omega) (by omega) ⟨by assumption, by assumption⟩ (by assumption)).symm, rfl, rfl⟩ | exact ⟨(fnd_n (fun j h0 h1 => hla j h0 (by omega))).symm, rfl, rfl⟩)
  exact lp_2_1 ((40 - 0 : Int).toNat + 1) 0 (by omega) (by omega) all_0 (Nat.lt_succ_self _)

set_option maxHeartbeats 4000000 in
set_option maxRecDepth 100000 in
theorem kX0_make (l : Launch) (G : Gl) (P : Nat → Nat) (V : Vt) (w : Nat) (start : Int) (hw : w < 6) (hB : BV V) (h3 : 0 ≤ start) (h4 : start ≤ 40) : Met l yX0_make wsX0_make ({ frames := 1, cells := 0, slots := 0, locals := 60 }) (va_Pc [.ref (ad G 1 w), .ref (ad G 9 w), .int (iI start)] (Sg G P V)) (Qk G mkI (fun r P' V' => P' = P ∧ BV V' ∧ ((r = -1 ∧ V' = V ∧ ∀ b, 0 ≤ b → b < 40 → V 3 w b ≠ 0) ∨ (0 ≤ r ∧ r < 40 ∧ V 3 w r = 0 ∧ (∀ b, 0 ≤ b → b < r → V 3 w b ≠ 0) ∧ V' = up (up V 2 w (cpI (V 9 w) (V 2 w) start (r * 8) 8)) 1 w (updI (V 1 w) 2 (V 1 w 2 + 1)))))) 0 0 (mem G) := by
  refine z_met (cc := cX0_make) (nL := 4) (ret := (some .int)) (own := RX0) (by decide +kernel) rfl rfl (Nat.le_of_ble_eq_true rfl) (L := [some (.ref (ad G 1 w)), some (.ref (ad G 9 w)), some (.int (iI start)), none]) rfl ?_
  intro X E Er0
  have iX0 : ∀ x ∈ wsX00, x ∈ wsX0_make := by decide +kernel
  have f0 : Cond.fieldLink RX0 15 "SharedStates$Blocks" "uses" "[I" ∈ wsX0_make := by decide +kernel
  have f1 : Cond.fieldLink RX0 9 "SharedStates$Blocks" "cells" "[I" ∈ wsX0_make := by decide +kernel
  have f2 : Cond.methodLink RX0 25 arraycopyName ∈ wsX0_make := by decide +kernel
  have f3 : Cond.native arraycopyName ∈ wsX0_make := by decide +kernel
  have f4 : Cond.static arraycopyName ∈ wsX0_make := by decide +kernel
  have f5 : Cond.initialized "java/lang/System" ∈ wsX0_make := by decide +kernel
  have f6 : Cond.fieldLink RX0 18 "SharedStates$Blocks" "made" "I" ∈ wsX0_make := by decide +kernel
  refine z_iload_n E dX0_make_0 2 rfl rfl ?_
  refine z_if_lt E 13 dX0_make_1 rfl (by omega) (fun c_1 => ?_) (fun c_1 => ?_)
  · skip
    refine z_iconst E dX0_make_13 ?_
    exact z_iret E Er0 dX0_make_14 (by exfalso; omega)
  · skip
    refine z_iload_n E dX0_make_4 2 rfl rfl ?_
    refine z_aload_n E dX0_make_5 1 rfl rfl ?_
    refine z_alen E (vl_w (by decide) hw) 48 rfl dX0_make_6 ?_
    refine z_bipush E dX0_make_7 rfl ?_
    refine z_isub E dX0_make_9 ?_
    refine z_icmp_le E 15 dX0_make_10 rfl (by omega) (by omega) (fun c_2 => ?_) (fun c_2 => ?_)
    · skip
      refine z_iconst E dX0_make_15 ?_
      refine z_istore_n E dX0_make_16 3 rfl (L' := [some (.ref (ad G 1 w)), some (.ref (ad G 9 w)), some (.int (iI start)), some (.int (iI 0))]) (Nat.le_of_ble_eq_true rfl) rfl ?_
      have lp_17_3 : ∀ (fuel : Nat) (k : Int), (0 ≤ k) → (k ≤ 40) → (∀ b, 0 ≤ b → b < k → V 3 w b ≠ 0) → (40 - k : Int).toNat < fuel → Kz X G P V 0 0 [some (.ref (ad G 1 w)), some (.ref (ad G 9 w)), some (.int (iI start)), some (.int (iI k))] 17 [] := by
        intro fuel
        induction fuel with
        | zero => intro k hk0 hk1 hla hf_17; exact absurd hf_17 (Nat.not_lt_zero _)
        | succ fuel ih_17 =>
          intro k hk0 hk1 hla hf_17
          refine z_iload_n E dX0_make_17 3 rfl rfl ?_
          refine z_bipush E dX0_make_18 rfl ?_
          refine z_icmp_ge E 65 dX0_make_20 rfl (by omega) (by omega) (fun c_4 => ?_) (fun c_4 => ?_)
          · skip
            refine z_iconst E dX0_make_65 ?_
            exact z_iret E Er0 dX0_make_66 (⟨rfl, hB, Or.inl ⟨rfl, rfl, fun b h0 h1 => hla b h0 (by omega)⟩⟩)
          · skip
            refine z_aload_n E dX0_make_23 0 rfl rfl ?_
            refine z_get E (ci := 0) (N := 4) (C := RX0) (T := TX0) (vl_w (by decide) hw) rfl rfl iX0 1 (by decide) rfl f0 rfl dX0_make_24 ?_
            refine z_iload_n E dX0_make_27 3 rfl rfl ?_
            refine z_iald E (vl_w (by decide) hw) 40 rfl (by omega) (by omega) (by omega) dX0_make_28 ?_
            have hr_5 := hB.g 3 w k rfl
            refine z_if_ne E 59 dX0_make_29 rfl (by omega) (fun c_6 => ?_) (fun c_6 => ?_)
            · skip
              refine z_iinc E k dX0_make_59 (L' := [some (.ref (ad G 1 w)), some (.ref (ad G 9 w)), some (.int (iI start)), some (.int (iI (k + 1)))]) (Nat.le_of_ble_eq_true rfl) rfl rfl ?_
              refine z_goto E 17 dX0_make_62 rfl ?_
              exact ih_17 (k + 1) (by omega) (by omega) (all_s hla (by assumption)) (by omega)
            · skip
              refine z_aload_n E dX0_make_32 1 rfl rfl ?_
              refine z_iload_n E dX0_make_33 2 rfl rfl ?_
              refine z_aload_n E dX0_make_34 0 rfl rfl ?_
              refine z_get E (ci := 0) (N := 4) (C := RX0) (T := TX0) (vl_w (by decide) hw) rfl rfl iX0 0 (by decide) rfl f1 rfl dX0_make_35 ?_
              refine z_iload_n E dX0_make_38 3 rfl rfl ?_
              refine z_bipush E dX0_make_39 rfl ?_
              refine z_imul E dX0_make_41 ?_
              refine z_bipush E dX0_make_42 rfl ?_
              refine z_acopy E (st := []) f2 f3 f4 f5 (vl_w (by decide) hw) (vl_w (by decide) hw) 48 (by omega) 320 (by omega) (fun _ => rfl) (fun _ => rfl) (by omega) (by omega) (by omega) (by omega) (by omega) (Nat.le_of_ble_eq_true rfl) (by decide +kernel) rfl dX0_make_44 ?_
              obtain ⟨V7, hV7⟩ : ∃ Z : Vt, Z = up V 2 w (cpI (V 9 w) (V 2 w) start (k * 8) 8) := ⟨_, rfl⟩
              rw [← hV7]
              have hB7 : BV V7 := hV7 ▸ BV_upC hB rfl
              refine z_aload_n E dX0_make_47 0 rfl rfl ?_
              refine z_dup E dX0_make_48 rfl ?_
              refine z_get E (ci := 0) (N := 4) (C := RX0) (T := TX0) (vl_w (by decide) hw) rfl rfl iX0 2 (by decide) rfl f6 rfl dX0_make_49 ?_
              refine z_iconst E dX0_make_52 ?_
              refine z_iadd E dX0_make_53 ?_
              refine z_put E (ci := 0) (N := 4) (C := RX0) (T := TX0) (ty := .int) (vl_w (by decide) hw) (updI (V7 1 w) 2 ((V7 1 w 2) + 1)) rfl rfl iX0 tyX0 tyX0_ok nmX0 2 (by decide) rfl f6 rfl rfl rfl rfl (Nat.le_of_ble_eq_true rfl) rfl dX0_make_54 ?_
              obtain ⟨V8, hV8⟩ : ∃ Z : Vt, Z = up V7 1 w (updI (V7 1 w) 2 ((V7 1 w 2) + 1)) := ⟨_, rfl⟩
              rw [← hV8]
              have hB8 : BV V8 := hV8 ▸ BV_up hB7 (fun hz => absurd (Or.inl rfl) hz)
              refine z_iload_n E dX0_make_57 3 rfl rfl ?_
              exact z_iret E Er0 dX0_make_58 (⟨rfl, hB8, Or.inr ⟨by omega, by omega, by assumption, hla, by rw [hV8, hV7] <;> rfl⟩⟩)
      exact lp_17_3 ((40 - 0 : Int).toNat + 1) 0 (by omega) (by omega) all_0 (Nat.lt_succ_self _)
    · skip
      refine z_iconst E dX0_make_13 ?_
      exact z_iret E Er0 dX0_make_14 (by exfalso; omega)

set_option maxHeartbeats 4000000 in
set_option maxRecDepth 100000 in
theorem kX0_sumOf (l : Launch) (G : Gl) (P : Nat → Nat) (V : Vt) (w : Nat) (block : Int) (hw : w < 6) (hB : BV V) (h1 : 0 ≤ block) (h2 : block < 40) : Met l yX0_sumOf wsX0_sumOf ({ frames := 1, cells := 0, slots := 0, locals := 23 }) (va_Pc [.ref (ad G 1 w), .int (iI block)] (Sg G P V)) (Qk G mkI (dt (sm 8 (fun i => V 2 w (block * 8 + i))) P V)) 0 0 (mem G) := by
  refine z_met (cc := cX0_sumOf) (nL := 4) (ret := (some .int)) (own := RX0) (by decide +kernel) rfl rfl (Nat.le_of_ble_eq_true rfl) (L := [some (.ref (ad G 1 w)), some (.int (iI block)), none, none]) rfl ?_
  intro X E Er0
  refine z_iconst E dX0_sumOf_0 ?_
  refine z_istore_n E dX0_sumOf_1 2 rfl (L' := [some (.ref (ad G 1 w)), some (.int (iI block)), some (.int (iI 0)), none]) (Nat.le_of_ble_eq_true rfl) rfl ?_
  refine z_iconst E dX0_sumOf_2 ?_
  refine z_istore_n E dX0_sumOf_3 3 rfl (L' := [some (.ref (ad G 1 w)), some (.int (iI block)), some (.int (iI 0)), some (.int (iI 0))]) (Nat.le_of_ble_eq_true rfl) rfl ?_
  have lp_4_1 : ∀ (fuel : Nat) (m : Int) (k : Int), (0 ≤ k) → (k ≤ 8) → (m = sm k (fun i => V 2 w (block * 8 + i))) → (8 - k : Int).toNat < fuel → Kz X G P V 0 0 [some (.ref (ad G 1 w)), some (.int (iI block)), some (.int (iI m)), some (.int (iI k))] 4 [] := by
    intro fuel
    induction fuel with
    | zero => intro m k hk0 hk1 hs hf_4; exact absurd hf_4 (Nat.not_lt_zero _)
    | succ fuel ih_4 =>
      intro m k hk0 hk1 hs hf_4
      refine z_iload_n E dX0_sumOf_4 3 rfl rfl ?_
      refine z_bipush E dX0_sumOf_5 rfl ?_
      refine z_icmp_ge E 25 dX0_sumOf_7 rfl (by omega) (by omega) (fun c_2 => ?_) (fun c_2 => ?_)
      · skip
        refine z_iload_n E dX0_sumOf_25 2 rfl rfl ?_
        exact z_iret E Er0 dX0_sumOf_26 (⟨by rw [hs, show k = 8 by omega], rfl, rfl⟩)
      · skip
        refine z_iload_n E dX0_sumOf_10 2 rfl rfl ?_
        refine z_aload_n E dX0_sumOf_11 0 rfl rfl ?_
        refine z_iload_n E dX0_sumOf_12 1 rfl rfl ?_
        refine z_iload_n E dX0_sumOf_13 3 rfl rfl ?_
        refine z_callV E (ci := 0) (N := 4) (C := RX0) (T := TX0) (n := 2) (st := [.int (iI m)]) (vl_w (by decide) hw) rfl rfl [.int (iI block), .int (iI k)] (kX0_cellOf l G P V w block k hw hB (by omega) (by omega) (by omega) (by omega)) gX0_sumOf_X0_cellOf rfl ⟨rfl, rfl⟩ (by decide +kernel) ⟨Nat.le_of_ble_eq_true rfl, Nat.le_of_ble_eq_true rfl⟩ rfl rfl (Nat.le_of_ble_eq_true rfl) rfl dX0_sumOf_14 (z_dtI ?_)
        refine z_iadd E dX0_sumOf_17 ?_
        refine z_istore_n E dX0_sumOf_18 2 rfl (L' := [some (.ref (ad G 1 w)), some (.int (iI block)), some (.int (iI (m + (V 2 w (block * 8 + k))))), some (.int (iI k))]) (Nat.le_of_ble_eq_true rfl) rfl ?_
        refine z_iinc E k dX0_sumOf_19 (L' := [some (.ref (ad G 1 w)), some (.int (iI block)), some (.int (iI (m + (V 2 w (block * 8 + k))))), some (.int (iI (k + 1)))]) (Nat.le_of_ble_eq_true rfl) rfl rfl ?_
        refine z_goto E 4 dX0_sumOf_22 rfl ?_
        exact ih_4 (m + (V 2 w (block * 8 + k))) (k + 1) (by omega) (by omega) (by rw [sm_s (by omega), ← hs]) (by omega)
  exact lp_4_1 ((8 - 0 : Int).toNat + 1) 0 0 (by omega) (by omega) (sm_0 (by omega)).symm (Nat.lt_succ_self _)

set_option maxHeartbeats 4000000 in
set_option maxRecDepth 100000 in
theorem kX0_nonZeroCells (l : Launch) (G : Gl) (P : Nat → Nat) (V : Vt) (w : Nat) (block : Int) (hw : w < 6) (hB : BV V) (h1 : 0 ≤ block) (h2 : block < 40) : Met l yX0_nonZeroCells wsX0_nonZeroCells ({ frames := 1, cells := 0, slots := 0, locals := 23 }) (va_Pc [.ref (ad G 1 w), .int (iI block)] (Sg G P V)) (Qk G mkI (dt (bits 8 (fun i => V 2 w (block * 8 + i) ≠ 0)) P V)) 0 0 (mem G) := by
  refine z_met (cc := cX0_nonZeroCells) (nL := 4) (ret := (some .int)) (own := RX0) (by decide +kernel) rfl rfl (Nat.le_of_ble_eq_true rfl) (L := [some (.ref (ad G 1 w)), some (.int (iI block)), none, none]) rfl ?_
  intro X E Er0
  refine z_iconst E dX0_nonZeroCells_0 ?_
  refine z_istore_n E dX0_nonZeroCells_1 2 rfl (L' := [some (.ref (ad G 1 w)), some (.int (iI block)), some (.int (iI 0)), none]) (Nat.le_of_ble_eq_true rfl) rfl ?_
  refine z_iconst E dX0_nonZeroCells_2 ?_
  refine z_istore_n E dX0_nonZeroCells_3 3 rfl (L' := [some (.ref (ad G 1 w)), some (.int (iI block)), some (.int (iI 0)), some (.int (iI 0))]) (Nat.le_of_ble_eq_true rfl) rfl ?_
  have lp_4_1 : ∀ (fuel : Nat) (m : Int) (k : Int), (0 ≤ k) → (k ≤ 8) → (m = bits k (fun i => V 2 w (block * 8 + i) ≠ 0)) → (8 - k : Int).toNat < fuel → Kz X G P V 0 0 [some (.ref (ad G 1 w)), some (.int (iI block)), some (.int (iI m)), some (.int (iI k))] 4 [] := by
    intro fuel
    induction fuel with
    | zero => intro m k hk0 hk1 hs hf_4; exact absurd hf_4 (Nat.not_lt_zero _)
    | succ fuel ih_4 =>
      intro m k hk0 hk1 hs hf_4
      have hsb := bits_bd (fun i => V 2 w (block * 8 + i) ≠ 0) hk0
      rw [← hs] at hsb
      refine z_iload_n E dX0_nonZeroCells_4 3 rfl rfl ?_
      refine z_bipush E dX0_nonZeroCells_5 rfl ?_
      refine z_icmp_ge E 31 dX0_nonZeroCells_7 rfl (by omega) (by omega) (fun c_2 => ?_) (fun c_2 => ?_)
      · skip
        refine z_iload_n E dX0_nonZeroCells_31 2 rfl rfl ?_
        exact z_iret E Er0 dX0_nonZeroCells_32 (⟨by rw [hs, show k = 8 by omega], rfl, rfl⟩)
      · skip
        refine z_aload_n E dX0_nonZeroCells_10 0 rfl rfl ?_
        refine z_iload_n E dX0_nonZeroCells_11 1 rfl rfl ?_
        refine z_iload_n E dX0_nonZeroCells_12 3 rfl rfl ?_
        have hr_c := hB.g 2 w (block * 8 + k) rfl
        refine z_callV E (ci := 0) (N := 4) (C := RX0) (T := TX0) (n := 2) (st := []) (vl_w (by decide) hw) rfl rfl [.int (iI block), .int (iI k)] (kX0_cellOf l G P V w block k hw hB (by omega) (by omega) (by omega) (by omega)) gX0_nonZeroCells_X0_cellOf rfl ⟨rfl, rfl⟩ (by decide +kernel) ⟨Nat.le_of_ble_eq_true rfl, Nat.le_of_ble_eq_true rfl⟩ rfl rfl (Nat.le_of_ble_eq_true rfl) rfl dX0_nonZeroCells_13 (z_dtI ?_)
        refine z_if_eq E 25 dX0_nonZeroCells_16 rfl (by omega) (fun c_4 => ?_) (fun c_4 => ?_)
        · skip
          refine z_iinc E k dX0_nonZeroCells_25 (L' := [some (.ref (ad G 1 w)), some (.int (iI block)), some (.int (iI m)), some (.int (iI (k + 1)))]) (Nat.le_of_ble_eq_true rfl) rfl rfl ?_
          refine z_goto E 4 dX0_nonZeroCells_28 rfl ?_
          exact ih_4 m (k + 1) (by omega) (by omega) (by first | exact bits_t hs (by omega) (by assumption) | exact bits_f hs (by omega) (fun z => z (by assumption))) (by omega)
        · skip
          refine z_iload_n E dX0_nonZeroCells_19 2 rfl rfl ?_
          refine z_iconst E dX0_nonZeroCells_20 ?_
          refine z_iload_n E dX0_nonZeroCells_21 3 rfl rfl ?_
          refine z_ishl E dX0_nonZeroCells_22 (by omega) (by omega) ?_
          refine z_iorS E dX0_nonZeroCells_23 (by omega) (hsb.1) (hsb.2) ?_
          refine z_istore_n E dX0_nonZeroCells_24 2 rfl (L' := [some (.ref (ad G 1 w)), some (.int (iI block)), some (.int (iI (m + (2 ^ k.toNat)))), some (.int (iI k))]) (Nat.le_of_ble_eq_true rfl) rfl ?_
          refine z_iinc E k dX0_nonZeroCells_25 (L' := [some (.ref (ad G 1 w)), some (.int (iI block)), some (.int (iI (m + (2 ^ k.toNat)))), some (.int (iI (k + 1)))]) (Nat.le_of_ble_eq_true rfl) rfl rfl ?_
          refine z_goto E 4 dX0_nonZeroCells_28 rfl ?_
          exact ih_4 (m + (2 ^ k.toNat)) (k + 1) (by omega) (by omega) (by first | exact bits_t hs (by omega) (by assumption) | exact bits_f hs (by omega) (fun z => z (by assumption))) (by omega)
  exact lp_4_1 ((8 - 0 : Int).toNat + 1) 0 0 (by omega) (by omega) bits_0.symm (Nat.lt_succ_self _)

set_option maxHeartbeats 4000000 in
set_option maxRecDepth 100000 in
theorem kX0_doubles (l : Launch) (G : Gl) (P : Nat → Nat) (V : Vt) (w : Nat) (hw : w < 6) (hB : BV V) : Met l yX0_doubles wsX0_doubles ({ frames := 2, cells := 0, slots := 0, locals := 47 }) (va_Pc [.ref (ad G 1 w)] (Sg G P V)) (Qk G mkI (dt (sm 40 (fun b => b2i (0 < V 3 w b ∧ fnd 40 (fun a => V 3 w a ≠ 0 ∧ eq8 (V 2 w) (V 2 w) (a * 8) (b * 8)) < b))) P V)) 0 0 (mem G) := by
  refine z_met (cc := cX0_doubles) (nL := 3) (ret := (some .int)) (own := RX0) (by decide +kernel) rfl rfl (Nat.le_of_ble_eq_true rfl) (L := [some (.ref (ad G 1 w)), none, none]) rfl ?_
  intro X E Er0
  have iX0 : ∀ x ∈ wsX00, x ∈ wsX0_doubles := by decide +kernel
  have f0 : Cond.fieldLink RX0 9 "SharedStates$Blocks" "cells" "[I" ∈ wsX0_doubles := by decide +kernel
  refine z_iconst E dX0_doubles_0 ?_
  refine z_istore_n E dX0_doubles_1 1 rfl (L' := [some (.ref (ad G 1 w)), some (.int (iI 0)), none]) (Nat.le_of_ble_eq_true rfl) rfl ?_
  refine z_iconst E dX0_doubles_2 ?_
  refine z_istore_n E dX0_doubles_3 2 rfl (L' := [some (.ref (ad G 1 w)), some (.int (iI 0)), some (.int (iI 0))]) (Nat.le_of_ble_eq_true rfl) rfl ?_
  have lp_4_1 : ∀ (fuel : Nat) (m : Int) (k : Int), (0 ≤ k) → (k ≤ 40) → (m = sm k (fun b => b2i (0 < V 3 w b ∧ fnd 40 (fun a => V 3 w a ≠ 0 ∧ eq8 (V 2 w) (V 2 w) (a * 8) (b * 8)) < b))) → (40 - k : Int).toNat < fuel → Kz X G P V 0 0 [some (.ref (ad G 1 w)), some (.int (iI m)), some (.int (iI k))] 4 [] := by
    intro fuel
    induction fuel with
    | zero => intro m k hk0 hk1 hs hf_4; exact absurd hf_4 (Nat.not_lt_zero _)
    | succ fuel ih_4 =>
      intro m k hk0 hk1 hs hf_4
      refine z_iload_n E dX0_doubles_4 2 rfl rfl ?_
      refine z_bipush E dX0_doubles_5 rfl ?_
      refine z_icmp_ge E 43 dX0_doubles_7 rfl (by omega) (by omega) (fun c_2 => ?_) (fun c_2 => ?_)
      · skip
        refine z_iload_n E dX0_doubles_43 1 rfl rfl ?_
        exact z_iret E Er0 dX0_doubles_44 (⟨by rw [hs, show k = 40 by omega], rfl, rfl⟩)
      · skip
        refine z_aload_n E dX0_doubles_10 0 rfl rfl ?_
        refine z_iload_n E dX0_doubles_11 2 rfl rfl ?_
        refine z_callV E (ci := 0) (N := 4) (C := RX0) (T := TX0) (n := 1) (st := []) (vl_w (by decide) hw) rfl rfl [.int (iI k)] (kX0_isThere l G P V w k hw hB (by omega)) gX0_doubles_X0_isThere rfl ⟨rfl, rfl⟩ (by decide +kernel) ⟨Nat.le_of_ble_eq_true rfl, Nat.le_of_ble_eq_true rfl⟩ rfl rfl (Nat.le_of_ble_eq_true rfl) rfl dX0_doubles_12 (z_dtI ?_)
        refine z_ifeq_b E 37 dX0_doubles_15 rfl (fun c_4 => ?_) (fun c_4 => ?_)
        · skip
          refine z_iinc E k dX0_doubles_37 (L' := [some (.ref (ad G 1 w)), some (.int (iI m)), some (.int (iI (k + 1)))]) (Nat.le_of_ble_eq_true rfl) rfl rfl ?_
          refine z_goto E 4 dX0_doubles_40 rfl ?_
          exact ih_4 m (k + 1) (by omega) (by omega) (by first | exact smb_t hs (by omega) (by first | assumption | omega) | exact smb_f hs (by omega) (by first | assumption | omega) | exact smb_f0 hs (by omega) (by first | assumption | omega)) (by omega)
        · skip
          refine z_aload_n E dX0_doubles_18 0 rfl rfl ?_
          refine z_aload_n E dX0_doubles_19 0 rfl rfl ?_
          refine z_get E (ci := 0) (N := 4) (C := RX0) (T := TX0) (vl_w (by decide) hw) rfl rfl iX0 0 (by decide) rfl f0 rfl dX0_doubles_20 ?_
          refine z_iload_n E dX0_doubles_23 2 rfl rfl ?_
          refine z_bipush E dX0_doubles_24 rfl ?_
          refine z_imul E dX0_doubles_26 ?_
          refine z_callV E (ci := 0) (N := 4) (C := RX0) (T := TX0) (n := 2) (st := []) (vl_w (by decide) hw) rfl rfl [.ref (ad G 2 w), .int (iI (k * 8))] (kX0_lowestHolding l G P V w 2 320 (k * 8) hw hB (by omega) (by omega) (by omega)) gX0_doubles_X0_lowestHolding rfl ⟨rfl, rfl⟩ (by decide +kernel) ⟨Nat.le_of_ble_eq_true rfl, Nat.le_of_ble_eq_true rfl⟩ rfl rfl (Nat.le_of_ble_eq_true rfl) rfl dX0_doubles_27 (z_dtI ?_)
          have h_5a := fnd_bd 40 (fun b => V 3 w b ≠ 0 ∧ eq8 (V 2 w) (V 2 w) (b * 8) (k * 8)) (by omega)
          refine z_iload_n E dX0_doubles_30 2 rfl rfl ?_
          refine z_icmp_ge E 37 dX0_doubles_31 rfl (by omega) (by omega) (fun c_6 => ?_) (fun c_6 => ?_)
          · skip
            refine z_iinc E k dX0_doubles_37 (L' := [some (.ref (ad G 1 w)), some (.int (iI m)), some (.int (iI (k + 1)))]) (Nat.le_of_ble_eq_true rfl) rfl rfl ?_
            refine z_goto E 4 dX0_doubles_40 rfl ?_
            exact ih_4 m (k + 1) (by omega) (by omega) (by first | exact smb_t hs (by omega) (by first | assumption | omega) | exact smb_f hs (by omega) (by first | assumption | omega) | exact smb_f0 hs (by omega) (by first | assumption | omega)) (by omega)
          · skip
            refine z_iinc E m dX0_doubles_34 (L' := [some (.ref (ad G 1 w)), some (.int (iI (m + 1))), some (.int (iI k))]) (Nat.le_of_ble_eq_true rfl) rfl rfl ?_
            refine z_iinc E k dX0_doubles_37 (L' := [some (.ref (ad G 1 w)), some (.int (iI (m + 1))), some (.int (iI (k + 1)))]) (Nat.le_of_ble_eq_true rfl) rfl rfl ?_
            refine z_goto E 4 dX0_doubles_40 rfl ?_
            exact ih_4 (m + 1) (k + 1) (by omega) (by omega) (by first | exact smb_t hs (by omega) (by first | assumption | omega) | exact smb_f hs (by omega) (by first | assumption | omega) | exact smb_f0 hs (by omega) (by first | assumption | omega)) (by omega)
  exact lp_4_1 ((40 - 0 : Int).toNat + 1) 0 0 (by omega) (by omega) (sm_0 (by omega)).symm (Nat.lt_succ_self _)
