set_option maxHeartbeats 4000000 in
set_option maxRecDepth 100000 in
theorem kX5_read (l : Launch) (G : Gl) (P : Nat → Nat) (V : Vt) (state : Int) (cell : Int) (hw : P 0 < 6) (hB : BV V) (hn0 : 0 ≤ V 4 (P 0) 3) (hn1 : V 4 (P 0) 3 ≤ 16) (hL : ∀ j, 0 ≤ V 7 (P 0) j ∧ V 7 (P 0) j < 40) (a1 : inR state) (a2 : inR cell) : Met l yX5_read wsX5_read ({ frames := 2, cells := 0, slots := 0, locals := 45 }) (va_Pc [.ref (ad G 10 0), .int (iI state), .int (iI cell)] (Sg G P V)) (Qk G mkI (dt (if 0 ≤ (fnd (V 4 (P 0) 3) (fun k => V 5 (P 0) k = state)) ∧ 0 ≤ cell ∧ cell < 48 then cA (V 2 (P 0)) (V 7 (P 0)) (fnd (V 4 (P 0) 3) (fun k => V 5 (P 0) k = state)) cell else -1000001) P V)) 0 0 (mem G) := by
  refine z_met (cc := cX5_read) (nL := 4) (ret := (some .int)) (own := RX5) (by decide +kernel) rfl rfl (Nat.le_of_ble_eq_true rfl) (zz_cat rfl) (L := [some (.ref (ad G 10 0)), some (.int (iI state)), some (.int (iI cell)), none]) rfl ?_
  intro X E
  have iX4 : ∀ x ∈ wsX40, x ∈ wsX5_read := by decide +kernel
  have iX5 : ∀ x ∈ wsX50, x ∈ wsX5_read := by decide +kernel
  have f0 : Cond.fieldLink RX5 10 "SharedStates" "world" "LSharedStates$World;" ∈ wsX5_read := by decide +kernel
  have f1 : Cond.fieldLink RX5 72 "SharedStates$World" "states" "LSharedStates$States;" ∈ wsX5_read := by decide +kernel
  have f2 : Cond.constant RX5 85 (-1000001) ∈ wsX5_read := by decide +kernel
  refine z_aload_n E dX5_read_0 0 rfl rfl ?_
  refine z_get E (ci := 5) (N := 4) (C := RX5) (T := TX5) (rfl : vl 10 0 = true) rfl rfl iX5 0 (by decide) rfl f0 rfl dX5_read_1 ?_
  refine z_get E (ci := 4) (N := 6) (C := RX4) (T := TX4) (vl_w (by decide) hw) rfl rfl iX4 1 (by decide) rfl f1 rfl dX5_read_4 ?_
  refine z_iload_n E dX5_read_7 1 rfl rfl ?_
  refine z_callV E (ci := 3) (N := 5) (C := RX3) (T := TX3) (n := 1) (st := []) (vl_w (by decide) hw) rfl rfl [.int (iI state)] (kX3_slotOf l G P V (P 0) state hw hB (by omega) (by omega) (by omega)) gX5_read_X3_slotOf rfl ⟨rfl, rfl⟩ (by decide +kernel) ⟨Nat.le_of_ble_eq_true rfl, Nat.le_of_ble_eq_true rfl⟩ rfl rfl (Nat.le_of_ble_eq_true rfl) rfl dX5_read_8 (z_dtI ?_)
  have h_1a := fnd_bd (V 4 (P 0) 3) (fun k => V 5 (P 0) k = state) (by omega)
  refine z_istore_n E dX5_read_11 3 rfl (L' := [some (.ref (ad G 10 0)), some (.int (iI state)), some (.int (iI cell)), some (.int (iI (fnd (V 4 (P 0) 3) (fun k => V 5 (P 0) k = state))))]) (Nat.le_of_ble_eq_true rfl) rfl ?_
  refine z_iload_n E dX5_read_12 3 rfl rfl ?_
  refine z_if_lt E 25 dX5_read_13 rfl (by omega) (fun c_2 => ?_) (fun c_2 => ?_)
  · skip
    refine z_ldc E (-1000001) f2 rfl dX5_read_25 ?_
    exact z_iret E dX5_read_27 (⟨by rw [if_neg (by omega)], rfl, rfl⟩)
  · skip
    refine z_iload_n E dX5_read_16 2 rfl rfl ?_
    refine z_bipush E dX5_read_17 rfl ?_
    refine z_callS E (n := 2) (st := []) [.int (iI cell), .int (iI 48)] (kX5_isIndex l G P V cell 48 (by omega) (by omega)) gX5_read_X5_isIndex rfl ⟨rfl, rfl⟩ (by decide +kernel) ⟨Nat.le_of_ble_eq_true rfl, Nat.le_of_ble_eq_true rfl⟩ rfl rfl (Nat.le_of_ble_eq_true rfl) rfl dX5_read_19 (z_dtI ?_)
    refine z_ifne_b E 28 dX5_read_22 rfl (fun c_4 => ?_) (fun c_4 => ?_)
    · skip
      refine z_aload_n E dX5_read_28 0 rfl rfl ?_
      refine z_get E (ci := 5) (N := 4) (C := RX5) (T := TX5) (rfl : vl 10 0 = true) rfl rfl iX5 0 (by decide) rfl f0 rfl dX5_read_29 ?_
      refine z_iload_n E dX5_read_32 3 rfl rfl ?_
      refine z_iload_n E dX5_read_33 2 rfl rfl ?_
      refine z_callV E (ci := 4) (N := 6) (C := RX4) (T := TX4) (n := 2) (st := []) (vl_w (by decide) hw) rfl rfl [.int (iI (fnd (V 4 (P 0) 3) (fun k => V 5 (P 0) k = state))), .int (iI cell)] (kX4_cellAt l G P V (P 0) (fnd (V 4 (P 0) 3) (fun k => V 5 (P 0) k = state)) cell hw hB (by omega) (by omega) hL (by omega) (by omega) (by omega) (by omega)) gX5_read_X4_cellAt rfl ⟨rfl, rfl⟩ (by decide +kernel) ⟨Nat.le_of_ble_eq_true rfl, Nat.le_of_ble_eq_true rfl⟩ rfl rfl (Nat.le_of_ble_eq_true rfl) rfl dX5_read_34 (z_dtI ?_)
      have h_5a := cA_R hB (P 0) (fnd (V 4 (P 0) 3) (fun k => V 5 (P 0) k = state)) cell
      exact z_iret E dX5_read_37 (⟨by rw [if_pos (by omega)], rfl, rfl⟩)
    · skip
      refine z_ldc E (-1000001) f2 rfl dX5_read_25 ?_
      exact z_iret E dX5_read_27 (⟨by rw [if_neg (by omega)], rfl, rfl⟩)

set_option maxHeartbeats 4000000 in
set_option maxRecDepth 100000 in
theorem kX5_number (l : Launch) (G : Gl) (P : Nat → Nat) (V : Vt) (index : Int) (hw : P 0 < 6) (hB : BV V) (hn0 : 0 ≤ V 4 (P 0) 3) (hn1 : V 4 (P 0) 3 ≤ 16) (a1 : inR index) : Met l yX5_number wsX5_number ({ frames := 1, cells := 0, slots := 0, locals := 21 }) (va_Pc [.ref (ad G 10 0), .int (iI index)] (Sg G P V)) (Qk G mkI (dt (if index < 0 then -1000001 else fO (nO (V 4 (P 0) 3) (V 5 (P 0)) index)) P V)) 0 0 (mem G) := by
  refine z_met (cc := cX5_number) (nL := 2) (ret := (some .int)) (own := RX5) (by decide +kernel) rfl rfl (Nat.le_of_ble_eq_true rfl) (zz_cat rfl) (L := [some (.ref (ad G 10 0)), some (.int (iI index))]) rfl ?_
  intro X E
  have iX4 : ∀ x ∈ wsX40, x ∈ wsX5_number := by decide +kernel
  have iX5 : ∀ x ∈ wsX50, x ∈ wsX5_number := by decide +kernel
  have f0 : Cond.fieldLink RX5 10 "SharedStates" "world" "LSharedStates$World;" ∈ wsX5_number := by decide +kernel
  have f1 : Cond.fieldLink RX5 72 "SharedStates$World" "states" "LSharedStates$States;" ∈ wsX5_number := by decide +kernel
  have f2 : Cond.constant RX5 85 (-1000001) ∈ wsX5_number := by decide +kernel
  refine z_iload_n E dX5_number_0 1 rfl rfl ?_
  refine z_if_ge E 7 dX5_number_1 rfl (by omega) (fun c_1 => ?_) (fun c_1 => ?_)
  · skip
    refine z_aload_n E dX5_number_7 0 rfl rfl ?_
    refine z_get E (ci := 5) (N := 4) (C := RX5) (T := TX5) (rfl : vl 10 0 = true) rfl rfl iX5 0 (by decide) rfl f0 rfl dX5_number_8 ?_
    refine z_get E (ci := 4) (N := 6) (C := RX4) (T := TX4) (vl_w (by decide) hw) rfl rfl iX4 1 (by decide) rfl f1 rfl dX5_number_11 ?_
    refine z_iload_n E dX5_number_14 1 rfl rfl ?_
    refine z_callV E (ci := 3) (N := 5) (C := RX3) (T := TX3) (n := 1) (st := []) (vl_w (by decide) hw) rfl rfl [.int (iI index)] (kX3_numberOf l G P V (P 0) index hw hB (by omega) (by omega) (by omega)) gX5_number_X3_numberOf rfl ⟨rfl, rfl⟩ (by decide +kernel) ⟨Nat.le_of_ble_eq_true rfl, Nat.le_of_ble_eq_true rfl⟩ rfl rfl (Nat.le_of_ble_eq_true rfl) rfl dX5_number_15 (z_dtI ?_)
    have h_2a := nO_R hB (P 0) (V 4 (P 0) 3) index
    refine z_callS E (n := 1) (st := []) [.int (iI (nO (V 4 (P 0) 3) (V 5 (P 0)) index))] (kX5_foundOr l G P V (nO (V 4 (P 0) 3) (V 5 (P 0)) index) (by omega)) gX5_number_X5_foundOr rfl ⟨rfl, rfl⟩ (by decide +kernel) ⟨Nat.le_of_ble_eq_true rfl, Nat.le_of_ble_eq_true rfl⟩ rfl rfl (Nat.le_of_ble_eq_true rfl) rfl dX5_number_18 (z_dtI ?_)
    exact z_iret E dX5_number_21 (⟨by rw [if_neg (by omega)], rfl, rfl⟩)
  · skip
    refine z_ldc E (-1000001) f2 rfl dX5_number_4 ?_
    exact z_iret E dX5_number_6 (⟨by rw [if_pos (by omega)], rfl, rfl⟩)

set_option maxHeartbeats 4000000 in
set_option maxRecDepth 100000 in
theorem kX5_blockAt (l : Launch) (G : Gl) (P : Nat → Nat) (V : Vt) (state : Int) (place : Int) (hw : P 0 < 6) (hB : BV V) (hn0 : 0 ≤ V 4 (P 0) 3) (hn1 : V 4 (P 0) 3 ≤ 16) (hL : ∀ j, 0 ≤ V 7 (P 0) j ∧ V 7 (P 0) j < 40) (a1 : inR state) (a2 : inR place) : Met l yX5_blockAt wsX5_blockAt ({ frames := 1, cells := 0, slots := 0, locals := 23 }) (va_Pc [.ref (ad G 10 0), .int (iI state), .int (iI place)] (Sg G P V)) (Qk G mkI (dt (if 0 ≤ (fnd (V 4 (P 0) 3) (fun k => V 5 (P 0) k = state)) ∧ 0 ≤ place ∧ place < 6 then V 7 (P 0) ((fnd (V 4 (P 0) 3) (fun k => V 5 (P 0) k = state)) * 6 + place) else -1000001) P V)) 0 0 (mem G) := by
  refine z_met (cc := cX5_blockAt) (nL := 4) (ret := (some .int)) (own := RX5) (by decide +kernel) rfl rfl (Nat.le_of_ble_eq_true rfl) (zz_cat rfl) (L := [some (.ref (ad G 10 0)), some (.int (iI state)), some (.int (iI place)), none]) rfl ?_
  intro X E
  have iX4 : ∀ x ∈ wsX40, x ∈ wsX5_blockAt := by decide +kernel
  have iX5 : ∀ x ∈ wsX50, x ∈ wsX5_blockAt := by decide +kernel
  have f0 : Cond.fieldLink RX5 10 "SharedStates" "world" "LSharedStates$World;" ∈ wsX5_blockAt := by decide +kernel
  have f1 : Cond.fieldLink RX5 72 "SharedStates$World" "states" "LSharedStates$States;" ∈ wsX5_blockAt := by decide +kernel
  have f2 : Cond.constant RX5 85 (-1000001) ∈ wsX5_blockAt := by decide +kernel
  refine z_aload_n E dX5_blockAt_0 0 rfl rfl ?_
  refine z_get E (ci := 5) (N := 4) (C := RX5) (T := TX5) (rfl : vl 10 0 = true) rfl rfl iX5 0 (by decide) rfl f0 rfl dX5_blockAt_1 ?_
  refine z_get E (ci := 4) (N := 6) (C := RX4) (T := TX4) (vl_w (by decide) hw) rfl rfl iX4 1 (by decide) rfl f1 rfl dX5_blockAt_4 ?_
  refine z_iload_n E dX5_blockAt_7 1 rfl rfl ?_
  refine z_callV E (ci := 3) (N := 5) (C := RX3) (T := TX3) (n := 1) (st := []) (vl_w (by decide) hw) rfl rfl [.int (iI state)] (kX3_slotOf l G P V (P 0) state hw hB (by omega) (by omega) (by omega)) gX5_blockAt_X3_slotOf rfl ⟨rfl, rfl⟩ (by decide +kernel) ⟨Nat.le_of_ble_eq_true rfl, Nat.le_of_ble_eq_true rfl⟩ rfl rfl (Nat.le_of_ble_eq_true rfl) rfl dX5_blockAt_8 (z_dtI ?_)
  have h_1a := fnd_bd (V 4 (P 0) 3) (fun k => V 5 (P 0) k = state) (by omega)
  refine z_istore_n E dX5_blockAt_11 3 rfl (L' := [some (.ref (ad G 10 0)), some (.int (iI state)), some (.int (iI place)), some (.int (iI (fnd (V 4 (P 0) 3) (fun k => V 5 (P 0) k = state))))]) (Nat.le_of_ble_eq_true rfl) rfl ?_
  refine z_iload_n E dX5_blockAt_12 3 rfl rfl ?_
  refine z_if_lt E 25 dX5_blockAt_13 rfl (by omega) (fun c_2 => ?_) (fun c_2 => ?_)
  · skip
    refine z_ldc E (-1000001) f2 rfl dX5_blockAt_25 ?_
    exact z_iret E dX5_blockAt_27 (⟨by rw [if_neg (by omega)], rfl, rfl⟩)
  · skip
    refine z_iload_n E dX5_blockAt_16 2 rfl rfl ?_
    refine z_bipush E dX5_blockAt_17 rfl ?_
    refine z_callS E (n := 2) (st := []) [.int (iI place), .int (iI 6)] (kX5_isIndex l G P V place 6 (by omega) (by omega)) gX5_blockAt_X5_isIndex rfl ⟨rfl, rfl⟩ (by decide +kernel) ⟨Nat.le_of_ble_eq_true rfl, Nat.le_of_ble_eq_true rfl⟩ rfl rfl (Nat.le_of_ble_eq_true rfl) rfl dX5_blockAt_19 (z_dtI ?_)
    refine z_ifne_b E 28 dX5_blockAt_22 rfl (fun c_4 => ?_) (fun c_4 => ?_)
    · skip
      refine z_aload_n E dX5_blockAt_28 0 rfl rfl ?_
      refine z_get E (ci := 5) (N := 4) (C := RX5) (T := TX5) (rfl : vl 10 0 = true) rfl rfl iX5 0 (by decide) rfl f0 rfl dX5_blockAt_29 ?_
      refine z_get E (ci := 4) (N := 6) (C := RX4) (T := TX4) (vl_w (by decide) hw) rfl rfl iX4 1 (by decide) rfl f1 rfl dX5_blockAt_32 ?_
      refine z_iload_n E dX5_blockAt_35 3 rfl rfl ?_
      refine z_iload_n E dX5_blockAt_36 2 rfl rfl ?_
      refine z_callV E (ci := 3) (N := 5) (C := RX3) (T := TX3) (n := 2) (st := []) (vl_w (by decide) hw) rfl rfl [.int (iI (fnd (V 4 (P 0) 3) (fun k => V 5 (P 0) k = state))), .int (iI place)] (kX3_block l G P V (P 0) (fnd (V 4 (P 0) 3) (fun k => V 5 (P 0) k = state)) place hw hB (by omega) (by omega) hL (by omega) (by omega) (by omega) (by omega)) gX5_blockAt_X3_block rfl ⟨rfl, rfl⟩ (by decide +kernel) ⟨Nat.le_of_ble_eq_true rfl, Nat.le_of_ble_eq_true rfl⟩ rfl rfl (Nat.le_of_ble_eq_true rfl) rfl dX5_blockAt_37 (z_dtI ?_)
      have h_5a := hL ((fnd (V 4 (P 0) 3) (fun k => V 5 (P 0) k = state)) * 6 + place)
      exact z_iret E dX5_blockAt_40 (⟨by rw [if_pos (by omega)], rfl, rfl⟩)
    · skip
      refine z_ldc E (-1000001) f2 rfl dX5_blockAt_25 ?_
      exact z_iret E dX5_blockAt_27 (⟨by rw [if_neg (by omega)], rfl, rfl⟩)

set_option maxHeartbeats 4000000 in
set_option maxRecDepth 100000 in
theorem kX5_head (l : Launch) (G : Gl) (P : Nat → Nat) (V : Vt) (b : Int) (hw : P 0 < 6) (hB : BV V) (a1 : inR b) : Met l yX5_head wsX5_head ({ frames := 2, cells := 0, slots := 0, locals := 42 }) (va_Pc [.ref (ad G 10 0), .int (iI b)] (Sg G P V)) (Qk G mkI (dt (if 0 ≤ b ∧ b < 4 ∧ ¬ V 8 (P 0) b = -1 then V 8 (P 0) b else -1000001) P V)) 0 0 (mem G) := by
  refine z_met (cc := cX5_head) (nL := 2) (ret := (some .int)) (own := RX5) (by decide +kernel) rfl rfl (Nat.le_of_ble_eq_true rfl) (zz_cat rfl) (L := [some (.ref (ad G 10 0)), some (.int (iI b))]) rfl ?_
  intro X E
  have iX4 : ∀ x ∈ wsX40, x ∈ wsX5_head := by decide +kernel
  have iX5 : ∀ x ∈ wsX50, x ∈ wsX5_head := by decide +kernel
  have f0 : Cond.fieldLink RX5 10 "SharedStates" "world" "LSharedStates$World;" ∈ wsX5_head := by decide +kernel
  have f1 : Cond.constant RX5 85 (-1000001) ∈ wsX5_head := by decide +kernel
  have f2 : Cond.fieldLink RX5 154 "SharedStates$World" "heads" "[I" ∈ wsX5_head := by decide +kernel
  refine z_aload_n E dX5_head_0 0 rfl rfl ?_
  refine z_get E (ci := 5) (N := 4) (C := RX5) (T := TX5) (rfl : vl 10 0 = true) rfl rfl iX5 0 (by decide) rfl f0 rfl dX5_head_1 ?_
  refine z_iload_n E dX5_head_4 1 rfl rfl ?_
  refine z_callV E (ci := 4) (N := 6) (C := RX4) (T := TX4) (n := 1) (st := []) (vl_w (by decide) hw) rfl rfl [.int (iI b)] (kX4_isBranch l G P V (P 0) b hw hB (by omega)) gX5_head_X4_isBranch rfl ⟨rfl, rfl⟩ (by decide +kernel) ⟨Nat.le_of_ble_eq_true rfl, Nat.le_of_ble_eq_true rfl⟩ rfl rfl (Nat.le_of_ble_eq_true rfl) rfl dX5_head_5 (z_dtI ?_)
  refine z_ifeq_b E 23 dX5_head_8 rfl (fun c_2 => ?_) (fun c_2 => ?_)
  · skip
    refine z_ldc E (-1000001) f1 rfl dX5_head_23 ?_
    exact z_iret E dX5_head_25 (⟨by first | rw [if_pos (by omega)] | rw [if_neg (by omega)], rfl, rfl⟩)
  · skip
    refine z_aload_n E dX5_head_11 0 rfl rfl ?_
    refine z_get E (ci := 5) (N := 4) (C := RX5) (T := TX5) (rfl : vl 10 0 = true) rfl rfl iX5 0 (by decide) rfl f0 rfl dX5_head_12 ?_
    refine z_get E (ci := 4) (N := 6) (C := RX4) (T := TX4) (vl_w (by decide) hw) rfl rfl iX4 2 (by decide) rfl f2 rfl dX5_head_15 ?_
    refine z_iload_n E dX5_head_18 1 rfl rfl ?_
    refine z_iald E (vl_w (by decide) hw) 4 rfl (by omega) (by omega) (by omega) dX5_head_19 ?_
    have hr_3 := hB.g 8 (P 0) b rfl
    refine z_goto E 25 dX5_head_20 rfl ?_
    exact z_iret E dX5_head_25 (⟨by first | rw [if_pos (by omega)] | rw [if_neg (by omega)], rfl, rfl⟩)

set_option maxHeartbeats 4000000 in
set_option maxRecDepth 100000 in
theorem kX5_stateOf (l : Launch) (G : Gl) (P : Nat → Nat) (V : Vt) (state : Int) (what : Int) (hw : P 0 < 6) (hB : BV V) (hn0 : 0 ≤ V 4 (P 0) 3) (hn1 : V 4 (P 0) 3 ≤ 16) (hL : ∀ j, 0 ≤ V 7 (P 0) j ∧ V 7 (P 0) j < 40) (hps : ∀ s, 0 < s → s < V 4 (P 0) 3 → 0 ≤ fnd (V 4 (P 0) 3) (fun k => V 5 (P 0) k = V 6 (P 0) s)) (a1 : inR state) (a2 : inR what) : Met l yX5_stateOf wsX5_stateOf ({ frames := 4, cells := 0, slots := 0, locals := 93 }) (va_Pc [.ref (ad G 10 0), .int (iI state), .int (iI what)] (Sg G P V)) (Qk G mkI (dt (if (fnd (V 4 (P 0) 3) (fun k => V 5 (P 0) k = state)) < 0 then -1000001 else if what = 0 then fO (V 6 (P 0) (fnd (V 4 (P 0) 3) (fun k => V 5 (P 0) k = state))) else if what = 1 then sm (V 4 (P 0) 3) (fun j => b2i ((fnd (V 4 (P 0) 3) (fun k => V 5 (P 0) k = state)) < j ∧ V 6 (P 0) j = V 5 (P 0) (fnd (V 4 (P 0) 3) (fun k => V 5 (P 0) k = state)))) else if what = 2 then itS (pS (V 4 (P 0) 3) (V 5 (P 0)) (V 6 (P 0))) 16 (fnd (V 4 (P 0) 3) (fun k => V 5 (P 0) k = state)) else if what = 3 then sm 6 (fun p => sm 8 (fun i => V 2 (P 0) (V 7 (P 0) ((fnd (V 4 (P 0) 3) (fun k => V 5 (P 0) k = state)) * 6 + p) * 8 + i))) else if what = 4 then (if (fnd (V 4 (P 0) 3) (fun k => V 5 (P 0) k = state)) = 0 then -1000004 else sm 6 (fun p => b2i (¬ V 7 (P 0) ((fnd (V 4 (P 0) 3) (fun k => V 5 (P 0) k = state)) * 6 + p) = V 7 (P 0) (fnd (V 4 (P 0) 3) (fun k => V 5 (P 0) k = V 6 (P 0) (fnd (V 4 (P 0) 3) (fun k => V 5 (P 0) k = state))) * 6 + p)))) else if what = 5 then sm 6 (fun q => b2i (V 3 (P 0) (V 7 (P 0) ((fnd (V 4 (P 0) 3) (fun k => V 5 (P 0) k = state)) * 6 + q)) = sm 6 (fun p => b2i (V 7 (P 0) ((fnd (V 4 (P 0) 3) (fun k => V 5 (P 0) k = state)) * 6 + p) = V 7 (P 0) ((fnd (V 4 (P 0) 3) (fun k => V 5 (P 0) k = state)) * 6 + q))))) else if what = 6 then sm 6 (fun p => b2i (∀ e, 0 ≤ e → e < p → ¬ V 7 (P 0) ((fnd (V 4 (P 0) 3) (fun k => V 5 (P 0) k = state)) * 6 + e) = V 7 (P 0) ((fnd (V 4 (P 0) 3) (fun k => V 5 (P 0) k = state)) * 6 + p))) else if what = 7 then bits 4 (fun b => V 8 (P 0) b = state) else -1000001) P V)) 0 0 (mem G) := by
  refine z_met (cc := cX5_stateOf) (nL := 4) (ret := (some .int)) (own := RX5) (by decide +kernel) rfl rfl (Nat.le_of_ble_eq_true rfl) (zz_cat rfl) (L := [some (.ref (ad G 10 0)), some (.int (iI state)), some (.int (iI what)), none]) rfl ?_
  intro X E
  have iX4 : ∀ x ∈ wsX40, x ∈ wsX5_stateOf := by decide +kernel
  have iX5 : ∀ x ∈ wsX50, x ∈ wsX5_stateOf := by decide +kernel
  have f0 : Cond.fieldLink RX5 10 "SharedStates" "world" "LSharedStates$World;" ∈ wsX5_stateOf := by decide +kernel
  have f1 : Cond.fieldLink RX5 72 "SharedStates$World" "states" "LSharedStates$States;" ∈ wsX5_stateOf := by decide +kernel
  have f2 : Cond.constant RX5 104 (-1000004) ∈ wsX5_stateOf := by decide +kernel
  have f3 : Cond.constant RX5 85 (-1000001) ∈ wsX5_stateOf := by decide +kernel
  refine z_aload_n E dX5_stateOf_0 0 rfl rfl ?_
  refine z_get E (ci := 5) (N := 4) (C := RX5) (T := TX5) (rfl : vl 10 0 = true) rfl rfl iX5 0 (by decide) rfl f0 rfl dX5_stateOf_1 ?_
  refine z_get E (ci := 4) (N := 6) (C := RX4) (T := TX4) (vl_w (by decide) hw) rfl rfl iX4 1 (by decide) rfl f1 rfl dX5_stateOf_4 ?_
  refine z_iload_n E dX5_stateOf_7 1 rfl rfl ?_
  refine z_callV E (ci := 3) (N := 5) (C := RX3) (T := TX3) (n := 1) (st := []) (vl_w (by decide) hw) rfl rfl [.int (iI state)] (kX3_slotOf l G P V (P 0) state hw hB (by omega) (by omega) (by omega)) gX5_stateOf_X3_slotOf rfl ⟨rfl, rfl⟩ (by decide +kernel) ⟨Nat.le_of_ble_eq_true rfl, Nat.le_of_ble_eq_true rfl⟩ rfl rfl (Nat.le_of_ble_eq_true rfl) rfl dX5_stateOf_8 (z_dtI ?_)
  have h_1a := fnd_bd (V 4 (P 0) 3) (fun k => V 5 (P 0) k = state) (by omega)
  refine z_istore_n E dX5_stateOf_11 3 rfl (L' := [some (.ref (ad G 10 0)), some (.int (iI state)), some (.int (iI what)), some (.int (iI (fnd (V 4 (P 0) 3) (fun k => V 5 (P 0) k = state))))]) (Nat.le_of_ble_eq_true rfl) rfl ?_
  refine z_iload_n E dX5_stateOf_12 3 rfl rfl ?_
  refine z_if_ge E 19 dX5_stateOf_13 rfl (by omega) (fun c_2 => ?_) (fun c_2 => ?_)
  · skip
    refine z_iload_n E dX5_stateOf_19 2 rfl rfl ?_
    by_cases q_3_0 : what = 0
    · skip
      refine z_tsI E 0 68 q_3_0 (by omega) dX5_stateOf_20 (by decide) (by decide) rfl rfl ?_
      refine z_aload_n E dX5_stateOf_68 0 rfl rfl ?_
      refine z_get E (ci := 5) (N := 4) (C := RX5) (T := TX5) (rfl : vl 10 0 = true) rfl rfl iX5 0 (by decide) rfl f0 rfl dX5_stateOf_69 ?_
      refine z_get E (ci := 4) (N := 6) (C := RX4) (T := TX4) (vl_w (by decide) hw) rfl rfl iX4 1 (by decide) rfl f1 rfl dX5_stateOf_72 ?_
      refine z_iload_n E dX5_stateOf_75 3 rfl rfl ?_
      refine z_callV E (ci := 3) (N := 5) (C := RX3) (T := TX3) (n := 1) (st := []) (vl_w (by decide) hw) rfl rfl [.int (iI (fnd (V 4 (P 0) 3) (fun k => V 5 (P 0) k = state)))] (kX3_parentOf l G P V (P 0) (fnd (V 4 (P 0) 3) (fun k => V 5 (P 0) k = state)) hw hB (by omega) (by omega) (by omega) (by omega)) gX5_stateOf_X3_parentOf rfl ⟨rfl, rfl⟩ (by decide +kernel) ⟨Nat.le_of_ble_eq_true rfl, Nat.le_of_ble_eq_true rfl⟩ rfl rfl (Nat.le_of_ble_eq_true rfl) rfl dX5_stateOf_76 (z_dtI ?_)
      have hr_z := hB.g 6 (P 0) (fnd (V 4 (P 0) 3) (fun k => V 5 (P 0) k = state)) rfl
      refine z_callS E (n := 1) (st := []) [.int (iI (V 6 (P 0) (fnd (V 4 (P 0) 3) (fun k => V 5 (P 0) k = state))))] (kX5_foundOr l G P V (V 6 (P 0) (fnd (V 4 (P 0) 3) (fun k => V 5 (P 0) k = state))) (by omega)) gX5_stateOf_X5_foundOr rfl ⟨rfl, rfl⟩ (by decide +kernel) ⟨Nat.le_of_ble_eq_true rfl, Nat.le_of_ble_eq_true rfl⟩ rfl rfl (Nat.le_of_ble_eq_true rfl) rfl dX5_stateOf_79 (z_dtI ?_)
      exact z_iret E dX5_stateOf_82 (⟨by rw [if_neg (by omega), if_pos (by omega)], rfl, rfl⟩)
    by_cases q_3_1 : what = 1
    · skip
      refine z_tsI E 1 83 q_3_1 (by omega) dX5_stateOf_20 (by decide) (by decide) rfl rfl ?_
      refine z_aload_n E dX5_stateOf_83 0 rfl rfl ?_
      refine z_get E (ci := 5) (N := 4) (C := RX5) (T := TX5) (rfl : vl 10 0 = true) rfl rfl iX5 0 (by decide) rfl f0 rfl dX5_stateOf_84 ?_
      refine z_get E (ci := 4) (N := 6) (C := RX4) (T := TX4) (vl_w (by decide) hw) rfl rfl iX4 1 (by decide) rfl f1 rfl dX5_stateOf_87 ?_
      refine z_iload_n E dX5_stateOf_90 3 rfl rfl ?_
      refine z_callV E (ci := 3) (N := 5) (C := RX3) (T := TX3) (n := 1) (st := []) (vl_w (by decide) hw) rfl rfl [.int (iI (fnd (V 4 (P 0) 3) (fun k => V 5 (P 0) k = state)))] (kX3_childrenOf l G P V (P 0) (fnd (V 4 (P 0) 3) (fun k => V 5 (P 0) k = state)) hw hB (by omega) (by omega) (by omega) (by omega)) gX5_stateOf_X3_childrenOf rfl ⟨rfl, rfl⟩ (by decide +kernel) ⟨Nat.le_of_ble_eq_true rfl, Nat.le_of_ble_eq_true rfl⟩ rfl rfl (Nat.le_of_ble_eq_true rfl) rfl dX5_stateOf_91 (z_dtI ?_)
      exact z_iret E dX5_stateOf_94 (⟨by rw [if_neg (by omega), if_neg (by omega), if_pos (by omega)], rfl, rfl⟩)
    by_cases q_3_2 : what = 2
    · skip
      refine z_tsI E 2 95 q_3_2 (by omega) dX5_stateOf_20 (by decide) (by decide) rfl rfl ?_
      refine z_aload_n E dX5_stateOf_95 0 rfl rfl ?_
      refine z_get E (ci := 5) (N := 4) (C := RX5) (T := TX5) (rfl : vl 10 0 = true) rfl rfl iX5 0 (by decide) rfl f0 rfl dX5_stateOf_96 ?_
      refine z_get E (ci := 4) (N := 6) (C := RX4) (T := TX4) (vl_w (by decide) hw) rfl rfl iX4 1 (by decide) rfl f1 rfl dX5_stateOf_99 ?_
      refine z_iload_n E dX5_stateOf_102 3 rfl rfl ?_
      refine z_callV E (ci := 3) (N := 5) (C := RX3) (T := TX3) (n := 1) (st := []) (vl_w (by decide) hw) rfl rfl [.int (iI (fnd (V 4 (P 0) 3) (fun k => V 5 (P 0) k = state)))] (kX3_stepsFrom l G P V (P 0) (fnd (V 4 (P 0) 3) (fun k => V 5 (P 0) k = state)) hw hB (by omega) (by omega) (by omega) (by omega)) gX5_stateOf_X3_stepsFrom rfl ⟨rfl, rfl⟩ (by decide +kernel) ⟨Nat.le_of_ble_eq_true rfl, Nat.le_of_ble_eq_true rfl⟩ rfl rfl (Nat.le_of_ble_eq_true rfl) rfl dX5_stateOf_103 (z_dtI ?_)
      exact z_iret E dX5_stateOf_106 (⟨by rw [if_neg (by omega), if_neg (by omega), if_neg (by omega), if_pos (by omega)], rfl, rfl⟩)
    by_cases q_3_3 : what = 3
    · skip
      refine z_tsI E 3 107 q_3_3 (by omega) dX5_stateOf_20 (by decide) (by decide) rfl rfl ?_
      refine z_aload_n E dX5_stateOf_107 0 rfl rfl ?_
      refine z_get E (ci := 5) (N := 4) (C := RX5) (T := TX5) (rfl : vl 10 0 = true) rfl rfl iX5 0 (by decide) rfl f0 rfl dX5_stateOf_108 ?_
      refine z_iload_n E dX5_stateOf_111 3 rfl rfl ?_
      refine z_callV E (ci := 4) (N := 6) (C := RX4) (T := TX4) (n := 1) (st := []) (vl_w (by decide) hw) rfl rfl [.int (iI (fnd (V 4 (P 0) 3) (fun k => V 5 (P 0) k = state)))] (kX4_sumOfState l G P V (P 0) (fnd (V 4 (P 0) 3) (fun k => V 5 (P 0) k = state)) hw hB (by omega) (by omega) hL (by omega) (by omega)) gX5_stateOf_X4_sumOfState rfl ⟨rfl, rfl⟩ (by decide +kernel) ⟨Nat.le_of_ble_eq_true rfl, Nat.le_of_ble_eq_true rfl⟩ rfl rfl (Nat.le_of_ble_eq_true rfl) rfl dX5_stateOf_112 (z_dtI ?_)
      exact z_iret E dX5_stateOf_115 (⟨by rw [if_neg (by omega), if_neg (by omega), if_neg (by omega), if_neg (by omega), if_pos (by omega)], rfl, rfl⟩)
    by_cases q_3_4 : what = 4
    · skip
      refine z_tsI E 4 116 q_3_4 (by omega) dX5_stateOf_20 (by decide) (by decide) rfl rfl ?_
      refine z_iload_n E dX5_stateOf_116 3 rfl rfl ?_
      refine z_if_ne E 125 dX5_stateOf_117 rfl (by omega) (fun c_9 => ?_) (fun c_9 => ?_)
      · skip
        refine z_aload_n E dX5_stateOf_125 0 rfl rfl ?_
        refine z_get E (ci := 5) (N := 4) (C := RX5) (T := TX5) (rfl : vl 10 0 = true) rfl rfl iX5 0 (by decide) rfl f0 rfl dX5_stateOf_126 ?_
        refine z_get E (ci := 4) (N := 6) (C := RX4) (T := TX4) (vl_w (by decide) hw) rfl rfl iX4 1 (by decide) rfl f1 rfl dX5_stateOf_129 ?_
        refine z_iload_n E dX5_stateOf_132 3 rfl rfl ?_
        refine z_aload_n E dX5_stateOf_133 0 rfl rfl ?_
        refine z_get E (ci := 5) (N := 4) (C := RX5) (T := TX5) (rfl : vl 10 0 = true) rfl rfl iX5 0 (by decide) rfl f0 rfl dX5_stateOf_134 ?_
        refine z_get E (ci := 4) (N := 6) (C := RX4) (T := TX4) (vl_w (by decide) hw) rfl rfl iX4 1 (by decide) rfl f1 rfl dX5_stateOf_137 ?_
        refine z_iload_n E dX5_stateOf_140 3 rfl rfl ?_
        refine z_callV E (ci := 3) (N := 5) (C := RX3) (T := TX3) (n := 1) (st := [.int (iI (fnd (V 4 (P 0) 3) (fun k => V 5 (P 0) k = state))), .ref (ad G 4 (P 0))]) (vl_w (by decide) hw) rfl rfl [.int (iI (fnd (V 4 (P 0) 3) (fun k => V 5 (P 0) k = state)))] (kX3_parentSlot l G P V (P 0) (fnd (V 4 (P 0) 3) (fun k => V 5 (P 0) k = state)) hw hB (by omega) (by omega) (by omega) (by omega)) gX5_stateOf_X3_parentSlot rfl ⟨rfl, rfl⟩ (by decide +kernel) ⟨Nat.le_of_ble_eq_true rfl, Nat.le_of_ble_eq_true rfl⟩ rfl rfl (Nat.le_of_ble_eq_true rfl) rfl dX5_stateOf_141 (z_dtI ?_)
        have h_10a := fnd_bd (V 4 (P 0) 3) (fun k => V 5 (P 0) k = V 6 (P 0) (fnd (V 4 (P 0) 3) (fun k => V 5 (P 0) k = state))) (by omega)
        have hr_z := hps (fnd (V 4 (P 0) 3) (fun k => V 5 (P 0) k = state)) (by omega) (by omega)
        refine z_callV E (ci := 3) (N := 5) (C := RX3) (T := TX3) (n := 2) (st := []) (vl_w (by decide) hw) rfl rfl [.int (iI (fnd (V 4 (P 0) 3) (fun k => V 5 (P 0) k = state))), .int (iI (fnd (V 4 (P 0) 3) (fun k => V 5 (P 0) k = V 6 (P 0) (fnd (V 4 (P 0) 3) (fun k => V 5 (P 0) k = state)))))] (kX3_unlikePlaces l G P V (P 0) (fnd (V 4 (P 0) 3) (fun k => V 5 (P 0) k = state)) (fnd (V 4 (P 0) 3) (fun k => V 5 (P 0) k = V 6 (P 0) (fnd (V 4 (P 0) 3) (fun k => V 5 (P 0) k = state)))) hw hB (by omega) (by omega) hL (by omega) (by omega) (by omega) (by omega)) gX5_stateOf_X3_unlikePlaces rfl ⟨rfl, rfl⟩ (by decide +kernel) ⟨Nat.le_of_ble_eq_true rfl, Nat.le_of_ble_eq_true rfl⟩ rfl rfl (Nat.le_of_ble_eq_true rfl) rfl dX5_stateOf_144 (z_dtI ?_)
        exact z_iret E dX5_stateOf_147 (⟨by first | (rw [if_neg (by omega), if_neg (by omega), if_neg (by omega), if_neg (by omega), if_neg (by omega), if_pos (by omega), if_pos (by omega)]; done) | (rw [if_neg (by omega), if_neg (by omega), if_neg (by omega), if_neg (by omega), if_neg (by omega), if_pos (by omega), if_neg (by omega)]; done), rfl, rfl⟩)
      · skip
        refine z_ldc E (-1000004) f2 rfl dX5_stateOf_120 ?_
        refine z_goto E 147 dX5_stateOf_122 rfl ?_
        exact z_iret E dX5_stateOf_147 (⟨by first | (rw [if_neg (by omega), if_neg (by omega), if_neg (by omega), if_neg (by omega), if_neg (by omega), if_pos (by omega), if_pos (by omega)]; done) | (rw [if_neg (by omega), if_neg (by omega), if_neg (by omega), if_neg (by omega), if_neg (by omega), if_pos (by omega), if_neg (by omega)]; done), rfl, rfl⟩)
    by_cases q_3_5 : what = 5
    · skip
      refine z_tsI E 5 148 q_3_5 (by omega) dX5_stateOf_20 (by decide) (by decide) rfl rfl ?_
      refine z_aload_n E dX5_stateOf_148 0 rfl rfl ?_
      refine z_get E (ci := 5) (N := 4) (C := RX5) (T := TX5) (rfl : vl 10 0 = true) rfl rfl iX5 0 (by decide) rfl f0 rfl dX5_stateOf_149 ?_
      refine z_iload_n E dX5_stateOf_152 3 rfl rfl ?_
      refine z_callV E (ci := 4) (N := 6) (C := RX4) (T := TX4) (n := 1) (st := []) (vl_w (by decide) hw) rfl rfl [.int (iI (fnd (V 4 (P 0) 3) (fun k => V 5 (P 0) k = state)))] (kX4_placesOfItsOwn l G P V (P 0) (fnd (V 4 (P 0) 3) (fun k => V 5 (P 0) k = state)) hw hB (by omega) (by omega) hL (by omega) (by omega)) gX5_stateOf_X4_placesOfItsOwn rfl ⟨rfl, rfl⟩ (by decide +kernel) ⟨Nat.le_of_ble_eq_true rfl, Nat.le_of_ble_eq_true rfl⟩ rfl rfl (Nat.le_of_ble_eq_true rfl) rfl dX5_stateOf_153 (z_dtI ?_)
      exact z_iret E dX5_stateOf_156 (⟨by rw [if_neg (by omega), if_neg (by omega), if_neg (by omega), if_neg (by omega), if_neg (by omega), if_neg (by omega), if_pos (by omega)], rfl, rfl⟩)
    by_cases q_3_6 : what = 6
    · skip
      refine z_tsI E 6 157 q_3_6 (by omega) dX5_stateOf_20 (by decide) (by decide) rfl rfl ?_
      refine z_aload_n E dX5_stateOf_157 0 rfl rfl ?_
      refine z_get E (ci := 5) (N := 4) (C := RX5) (T := TX5) (rfl : vl 10 0 = true) rfl rfl iX5 0 (by decide) rfl f0 rfl dX5_stateOf_158 ?_
      refine z_get E (ci := 4) (N := 6) (C := RX4) (T := TX4) (vl_w (by decide) hw) rfl rfl iX4 1 (by decide) rfl f1 rfl dX5_stateOf_161 ?_
      refine z_iload_n E dX5_stateOf_164 3 rfl rfl ?_
      refine z_callV E (ci := 3) (N := 5) (C := RX3) (T := TX3) (n := 1) (st := []) (vl_w (by decide) hw) rfl rfl [.int (iI (fnd (V 4 (P 0) 3) (fun k => V 5 (P 0) k = state)))] (kX3_blocksIn l G P V (P 0) (fnd (V 4 (P 0) 3) (fun k => V 5 (P 0) k = state)) hw hB (by omega) (by omega) hL (by omega) (by omega)) gX5_stateOf_X3_blocksIn rfl ⟨rfl, rfl⟩ (by decide +kernel) ⟨Nat.le_of_ble_eq_true rfl, Nat.le_of_ble_eq_true rfl⟩ rfl rfl (Nat.le_of_ble_eq_true rfl) rfl dX5_stateOf_165 (z_dtI ?_)
      exact z_iret E dX5_stateOf_168 (⟨by rw [if_neg (by omega), if_neg (by omega), if_neg (by omega), if_neg (by omega), if_neg (by omega), if_neg (by omega), if_neg (by omega), if_pos (by omega)], rfl, rfl⟩)
    by_cases q_3_7 : what = 7
    · skip
      refine z_tsI E 7 169 q_3_7 (by omega) dX5_stateOf_20 (by decide) (by decide) rfl rfl ?_
      refine z_aload_n E dX5_stateOf_169 0 rfl rfl ?_
      refine z_get E (ci := 5) (N := 4) (C := RX5) (T := TX5) (rfl : vl 10 0 = true) rfl rfl iX5 0 (by decide) rfl f0 rfl dX5_stateOf_170 ?_
      refine z_iload_n E dX5_stateOf_173 1 rfl rfl ?_
      refine z_callV E (ci := 4) (N := 6) (C := RX4) (T := TX4) (n := 1) (st := []) (vl_w (by decide) hw) rfl rfl [.int (iI state)] (kX4_branchesAt l G P V (P 0) state hw hB (by omega)) gX5_stateOf_X4_branchesAt rfl ⟨rfl, rfl⟩ (by decide +kernel) ⟨Nat.le_of_ble_eq_true rfl, Nat.le_of_ble_eq_true rfl⟩ rfl rfl (Nat.le_of_ble_eq_true rfl) rfl dX5_stateOf_174 (z_dtI ?_)
      have h_14a := bits4_bd (fun b => V 8 (P 0) b = state)
      exact z_iret E dX5_stateOf_177 (⟨by rw [if_neg (by omega), if_neg (by omega), if_neg (by omega), if_neg (by omega), if_neg (by omega), if_neg (by omega), if_neg (by omega), if_neg (by omega), if_pos (by omega)], rfl, rfl⟩)
    refine z_tsO E 178 (by omega) dX5_stateOf_20 (by omega) rfl ?_
    refine z_ldc E (-1000001) f3 rfl dX5_stateOf_178 ?_
    exact z_iret E dX5_stateOf_180 (⟨by rw [if_neg (by omega), if_neg (by omega), if_neg (by omega), if_neg (by omega), if_neg (by omega), if_neg (by omega), if_neg (by omega), if_neg (by omega), if_neg (by omega)], rfl, rfl⟩)
  · skip
    refine z_ldc E (-1000001) f3 rfl dX5_stateOf_16 ?_
    exact z_iret E dX5_stateOf_18 (⟨by rw [if_pos (by omega)], rfl, rfl⟩)

set_option maxHeartbeats 4000000 in
set_option maxRecDepth 100000 in
theorem kX5_blockOf (l : Launch) (G : Gl) (P : Nat → Nat) (V : Vt) (block : Int) (what : Int) (hw : P 0 < 6) (hB : BV V) (hn0 : 0 ≤ V 4 (P 0) 3) (hn1 : V 4 (P 0) 3 ≤ 16) (hL : ∀ j, 0 ≤ V 7 (P 0) j ∧ V 7 (P 0) j < 40) (a1 : inR block) (a2 : inR what) : Met l yX5_blockOf wsX5_blockOf ({ frames := 3, cells := 0, slots := 0, locals := 70 }) (va_Pc [.ref (ad G 10 0), .int (iI block), .int (iI what)] (Sg G P V)) (Qk G mkI (dt (if ¬ (0 ≤ block ∧ block < 40 ∧ 0 < V 3 (P 0) block) then -1000001 else if what = 0 then V 3 (P 0) block else if what = 1 then sm (V 4 (P 0) 3) (fun k => b2i (0 < sm 6 (fun p => b2i (V 7 (P 0) (k * 6 + p) = block)))) else if what = 2 then sm 8 (fun i => V 2 (P 0) (block * 8 + i)) else if what = 3 then bits 8 (fun i => V 2 (P 0) (block * 8 + i) ≠ 0) else if what = 4 then fO (fnd 40 (fun o => o ≠ block ∧ V 3 (P 0) o ≠ 0 ∧ eq8 (V 2 (P 0)) (V 2 (P 0)) (o * 8) (block * 8))) else -1000001) P V)) 0 0 (mem G) := by
  refine z_met (cc := cX5_blockOf) (nL := 3) (ret := (some .int)) (own := RX5) (by decide +kernel) rfl rfl (Nat.le_of_ble_eq_true rfl) (zz_cat rfl) (L := [some (.ref (ad G 10 0)), some (.int (iI block)), some (.int (iI what))]) rfl ?_
  intro X E
  have iX4 : ∀ x ∈ wsX40, x ∈ wsX5_blockOf := by decide +kernel
  have iX5 : ∀ x ∈ wsX50, x ∈ wsX5_blockOf := by decide +kernel
  have f0 : Cond.fieldLink RX5 10 "SharedStates" "world" "LSharedStates$World;" ∈ wsX5_blockOf := by decide +kernel
  have f1 : Cond.fieldLink RX5 126 "SharedStates$World" "blocks" "LSharedStates$Blocks;" ∈ wsX5_blockOf := by decide +kernel
  have f2 : Cond.fieldLink RX5 72 "SharedStates$World" "states" "LSharedStates$States;" ∈ wsX5_blockOf := by decide +kernel
  have f3 : Cond.constant RX5 85 (-1000001) ∈ wsX5_blockOf := by decide +kernel
  refine z_aload_n E dX5_blockOf_0 0 rfl rfl ?_
  refine z_get E (ci := 5) (N := 4) (C := RX5) (T := TX5) (rfl : vl 10 0 = true) rfl rfl iX5 0 (by decide) rfl f0 rfl dX5_blockOf_1 ?_
  refine z_get E (ci := 4) (N := 6) (C := RX4) (T := TX4) (vl_w (by decide) hw) rfl rfl iX4 0 (by decide) rfl f1 rfl dX5_blockOf_4 ?_
  refine z_iload_n E dX5_blockOf_7 1 rfl rfl ?_
  refine z_callV E (ci := 0) (N := 4) (C := RX0) (T := TX0) (n := 1) (st := []) (vl_w (by decide) hw) rfl rfl [.int (iI block)] (kX0_isThere l G P V (P 0) block hw hB (by omega)) gX5_blockOf_X0_isThere rfl ⟨rfl, rfl⟩ (by decide +kernel) ⟨Nat.le_of_ble_eq_true rfl, Nat.le_of_ble_eq_true rfl⟩ rfl rfl (Nat.le_of_ble_eq_true rfl) rfl dX5_blockOf_8 (z_dtI ?_)
  refine z_ifne_b E 17 dX5_blockOf_11 rfl (fun c_2 => ?_) (fun c_2 => ?_)
  · skip
    refine z_iload_n E dX5_blockOf_17 2 rfl rfl ?_
    by_cases q_3_0 : what = 0
    · skip
      refine z_tsI E 0 52 q_3_0 (by omega) dX5_blockOf_18 (by decide) (by decide) rfl rfl ?_
      refine z_aload_n E dX5_blockOf_52 0 rfl rfl ?_
      refine z_get E (ci := 5) (N := 4) (C := RX5) (T := TX5) (rfl : vl 10 0 = true) rfl rfl iX5 0 (by decide) rfl f0 rfl dX5_blockOf_53 ?_
      refine z_get E (ci := 4) (N := 6) (C := RX4) (T := TX4) (vl_w (by decide) hw) rfl rfl iX4 0 (by decide) rfl f1 rfl dX5_blockOf_56 ?_
      refine z_iload_n E dX5_blockOf_59 1 rfl rfl ?_
      refine z_callV E (ci := 0) (N := 4) (C := RX0) (T := TX0) (n := 1) (st := []) (vl_w (by decide) hw) rfl rfl [.int (iI block)] (kX0_usesOf l G P V (P 0) block hw hB (by omega) (by omega)) gX5_blockOf_X0_usesOf rfl ⟨rfl, rfl⟩ (by decide +kernel) ⟨Nat.le_of_ble_eq_true rfl, Nat.le_of_ble_eq_true rfl⟩ rfl rfl (Nat.le_of_ble_eq_true rfl) rfl dX5_blockOf_60 (z_dtI ?_)
      exact z_iret E dX5_blockOf_63 (⟨by rw [if_neg (by omega), if_pos (by omega)], rfl, rfl⟩)
    by_cases q_3_1 : what = 1
    · skip
      refine z_tsI E 1 64 q_3_1 (by omega) dX5_blockOf_18 (by decide) (by decide) rfl rfl ?_
      refine z_aload_n E dX5_blockOf_64 0 rfl rfl ?_
      refine z_get E (ci := 5) (N := 4) (C := RX5) (T := TX5) (rfl : vl 10 0 = true) rfl rfl iX5 0 (by decide) rfl f0 rfl dX5_blockOf_65 ?_
      refine z_get E (ci := 4) (N := 6) (C := RX4) (T := TX4) (vl_w (by decide) hw) rfl rfl iX4 1 (by decide) rfl f2 rfl dX5_blockOf_68 ?_
      refine z_iload_n E dX5_blockOf_71 1 rfl rfl ?_
      refine z_callV E (ci := 3) (N := 5) (C := RX3) (T := TX3) (n := 1) (st := []) (vl_w (by decide) hw) rfl rfl [.int (iI block)] (kX3_statesWith l G P V (P 0) block hw hB (by omega) (by omega) hL (by omega)) gX5_blockOf_X3_statesWith rfl ⟨rfl, rfl⟩ (by decide +kernel) ⟨Nat.le_of_ble_eq_true rfl, Nat.le_of_ble_eq_true rfl⟩ rfl rfl (Nat.le_of_ble_eq_true rfl) rfl dX5_blockOf_72 (z_dtI ?_)
      exact z_iret E dX5_blockOf_75 (⟨by rw [if_neg (by omega), if_neg (by omega), if_pos (by omega)], rfl, rfl⟩)
    by_cases q_3_2 : what = 2
    · skip
      refine z_tsI E 2 76 q_3_2 (by omega) dX5_blockOf_18 (by decide) (by decide) rfl rfl ?_
      refine z_aload_n E dX5_blockOf_76 0 rfl rfl ?_
      refine z_get E (ci := 5) (N := 4) (C := RX5) (T := TX5) (rfl : vl 10 0 = true) rfl rfl iX5 0 (by decide) rfl f0 rfl dX5_blockOf_77 ?_
      refine z_get E (ci := 4) (N := 6) (C := RX4) (T := TX4) (vl_w (by decide) hw) rfl rfl iX4 0 (by decide) rfl f1 rfl dX5_blockOf_80 ?_
      refine z_iload_n E dX5_blockOf_83 1 rfl rfl ?_
      refine z_callV E (ci := 0) (N := 4) (C := RX0) (T := TX0) (n := 1) (st := []) (vl_w (by decide) hw) rfl rfl [.int (iI block)] (kX0_sumOf l G P V (P 0) block hw hB (by omega) (by omega)) gX5_blockOf_X0_sumOf rfl ⟨rfl, rfl⟩ (by decide +kernel) ⟨Nat.le_of_ble_eq_true rfl, Nat.le_of_ble_eq_true rfl⟩ rfl rfl (Nat.le_of_ble_eq_true rfl) rfl dX5_blockOf_84 (z_dtI ?_)
      exact z_iret E dX5_blockOf_87 (⟨by rw [if_neg (by omega), if_neg (by omega), if_neg (by omega), if_pos (by omega)], rfl, rfl⟩)
    by_cases q_3_3 : what = 3
    · skip
      refine z_tsI E 3 88 q_3_3 (by omega) dX5_blockOf_18 (by decide) (by decide) rfl rfl ?_
      refine z_aload_n E dX5_blockOf_88 0 rfl rfl ?_
      refine z_get E (ci := 5) (N := 4) (C := RX5) (T := TX5) (rfl : vl 10 0 = true) rfl rfl iX5 0 (by decide) rfl f0 rfl dX5_blockOf_89 ?_
      refine z_get E (ci := 4) (N := 6) (C := RX4) (T := TX4) (vl_w (by decide) hw) rfl rfl iX4 0 (by decide) rfl f1 rfl dX5_blockOf_92 ?_
      refine z_iload_n E dX5_blockOf_95 1 rfl rfl ?_
      refine z_callV E (ci := 0) (N := 4) (C := RX0) (T := TX0) (n := 1) (st := []) (vl_w (by decide) hw) rfl rfl [.int (iI block)] (kX0_nonZeroCells l G P V (P 0) block hw hB (by omega) (by omega)) gX5_blockOf_X0_nonZeroCells rfl ⟨rfl, rfl⟩ (by decide +kernel) ⟨Nat.le_of_ble_eq_true rfl, Nat.le_of_ble_eq_true rfl⟩ rfl rfl (Nat.le_of_ble_eq_true rfl) rfl dX5_blockOf_96 (z_dtI ?_)
      exact z_iret E dX5_blockOf_99 (⟨by rw [if_neg (by omega), if_neg (by omega), if_neg (by omega), if_neg (by omega), if_pos (by omega)], rfl, rfl⟩)
    by_cases q_3_4 : what = 4
    · skip
      refine z_tsI E 4 100 q_3_4 (by omega) dX5_blockOf_18 (by decide) (by decide) rfl rfl ?_
      refine z_aload_n E dX5_blockOf_100 0 rfl rfl ?_
      refine z_get E (ci := 5) (N := 4) (C := RX5) (T := TX5) (rfl : vl 10 0 = true) rfl rfl iX5 0 (by decide) rfl f0 rfl dX5_blockOf_101 ?_
      refine z_get E (ci := 4) (N := 6) (C := RX4) (T := TX4) (vl_w (by decide) hw) rfl rfl iX4 0 (by decide) rfl f1 rfl dX5_blockOf_104 ?_
      refine z_iload_n E dX5_blockOf_107 1 rfl rfl ?_
      refine z_callV E (ci := 0) (N := 4) (C := RX0) (T := TX0) (n := 1) (st := []) (vl_w (by decide) hw) rfl rfl [.int (iI block)] (kX0_lowestOtherLike l G P V (P 0) block hw hB (by omega) (by omega)) gX5_blockOf_X0_lowestOtherLike rfl ⟨rfl, rfl⟩ (by decide +kernel) ⟨Nat.le_of_ble_eq_true rfl, Nat.le_of_ble_eq_true rfl⟩ rfl rfl (Nat.le_of_ble_eq_true rfl) rfl dX5_blockOf_108 (z_dtI ?_)
      have h_8a := fnd_bd 40 (fun o => o ≠ block ∧ V 3 (P 0) o ≠ 0 ∧ eq8 (V 2 (P 0)) (V 2 (P 0)) (o * 8) (block * 8)) (by omega)
      refine z_callS E (n := 1) (st := []) [.int (iI (fnd 40 (fun o => o ≠ block ∧ V 3 (P 0) o ≠ 0 ∧ eq8 (V 2 (P 0)) (V 2 (P 0)) (o * 8) (block * 8))))] (kX5_foundOr l G P V (fnd 40 (fun o => o ≠ block ∧ V 3 (P 0) o ≠ 0 ∧ eq8 (V 2 (P 0)) (V 2 (P 0)) (o * 8) (block * 8))) (by omega)) gX5_blockOf_X5_foundOr rfl ⟨rfl, rfl⟩ (by decide +kernel) ⟨Nat.le_of_ble_eq_true rfl, Nat.le_of_ble_eq_true rfl⟩ rfl rfl (Nat.le_of_ble_eq_true rfl) rfl dX5_blockOf_111 (z_dtI ?_)
      exact z_iret E dX5_blockOf_114 (⟨by rw [if_neg (by omega), if_neg (by omega), if_neg (by omega), if_neg (by omega), if_neg (by omega), if_pos (by omega)], rfl, rfl⟩)
    refine z_tsO E 115 (by omega) dX5_blockOf_18 (by omega) rfl ?_
    refine z_ldc E (-1000001) f3 rfl dX5_blockOf_115 ?_
    exact z_iret E dX5_blockOf_117 (⟨by rw [if_neg (by omega), if_neg (by omega), if_neg (by omega), if_neg (by omega), if_neg (by omega), if_neg (by omega)], rfl, rfl⟩)
  · skip
    refine z_ldc E (-1000001) f3 rfl dX5_blockOf_14 ?_
    exact z_iret E dX5_blockOf_16 (⟨by rw [if_pos (by omega)], rfl, rfl⟩)

set_option maxHeartbeats 4000000 in
set_option maxRecDepth 100000 in
theorem kX5_unlike (l : Launch) (G : Gl) (P : Nat → Nat) (V : Vt) (one : Int) (other : Int) (what : Int) (hw : P 0 < 6) (hB : BV V) (hn0 : 0 ≤ V 4 (P 0) 3) (hn1 : V 4 (P 0) 3 ≤ 16) (hL : ∀ j, 0 ≤ V 7 (P 0) j ∧ V 7 (P 0) j < 40) (hcm : ∀ a b, 0 ≤ a → a < V 4 (P 0) 3 → 0 ≤ b → b < V 4 (P 0) 3 → 0 ≤ cmS (pS (V 4 (P 0) 3) (V 5 (P 0)) (V 6 (P 0))) 32 a b ∧ cmS (pS (V 4 (P 0) 3) (V 5 (P 0)) (V 6 (P 0))) 32 a b < V 4 (P 0) 3) (a1 : inR one) (a2 : inR other) (a3 : inR what) : Met l yX5_unlike wsX5_unlike ({ frames := 3, cells := 0, slots := 0, locals := 69 }) (va_Pc [.ref (ad G 10 0), .int (iI one), .int (iI other), .int (iI what)] (Sg G P V)) (Qk G mkI (dt (if (fnd (V 4 (P 0) 3) (fun k => V 5 (P 0) k = one)) < 0 ∨ (fnd (V 4 (P 0) 3) (fun k => V 5 (P 0) k = other)) < 0 then -1000001 else if what = 0 then sm 48 (fun c => b2i (¬ cA (V 2 (P 0)) (V 7 (P 0)) (fnd (V 4 (P 0) 3) (fun k => V 5 (P 0) k = one)) c = cA (V 2 (P 0)) (V 7 (P 0)) (fnd (V 4 (P 0) 3) (fun k => V 5 (P 0) k = other)) c)) else if what = 1 then fO (fnd 48 (fun c => ¬ cA (V 2 (P 0)) (V 7 (P 0)) (fnd (V 4 (P 0) 3) (fun k => V 5 (P 0) k = one)) c = cA (V 2 (P 0)) (V 7 (P 0)) (fnd (V 4 (P 0) 3) (fun k => V 5 (P 0) k = other)) c)) else if what = 2 then sm 6 (fun p => b2i (¬ V 7 (P 0) ((fnd (V 4 (P 0) 3) (fun k => V 5 (P 0) k = one)) * 6 + p) = V 7 (P 0) ((fnd (V 4 (P 0) 3) (fun k => V 5 (P 0) k = other)) * 6 + p))) else if what = 3 then nO (V 4 (P 0) 3) (V 5 (P 0)) (cmS (pS (V 4 (P 0) 3) (V 5 (P 0)) (V 6 (P 0))) 32 (fnd (V 4 (P 0) 3) (fun k => V 5 (P 0) k = one)) (fnd (V 4 (P 0) 3) (fun k => V 5 (P 0) k = other))) else -1000001) P V)) 0 0 (mem G) := by
  refine z_met (cc := cX5_unlike) (nL := 6) (ret := (some .int)) (own := RX5) (by decide +kernel) rfl rfl (Nat.le_of_ble_eq_true rfl) (zz_cat rfl) (L := [some (.ref (ad G 10 0)), some (.int (iI one)), some (.int (iI other)), some (.int (iI what)), none, none]) rfl ?_
  intro X E
  have iX4 : ∀ x ∈ wsX40, x ∈ wsX5_unlike := by decide +kernel
  have iX5 : ∀ x ∈ wsX50, x ∈ wsX5_unlike := by decide +kernel
  have f0 : Cond.fieldLink RX5 10 "SharedStates" "world" "LSharedStates$World;" ∈ wsX5_unlike := by decide +kernel
  have f1 : Cond.fieldLink RX5 72 "SharedStates$World" "states" "LSharedStates$States;" ∈ wsX5_unlike := by decide +kernel
  have f2 : Cond.constant RX5 85 (-1000001) ∈ wsX5_unlike := by decide +kernel
  refine z_aload_n E dX5_unlike_0 0 rfl rfl ?_
  refine z_get E (ci := 5) (N := 4) (C := RX5) (T := TX5) (rfl : vl 10 0 = true) rfl rfl iX5 0 (by decide) rfl f0 rfl dX5_unlike_1 ?_
  refine z_get E (ci := 4) (N := 6) (C := RX4) (T := TX4) (vl_w (by decide) hw) rfl rfl iX4 1 (by decide) rfl f1 rfl dX5_unlike_4 ?_
  refine z_iload_n E dX5_unlike_7 1 rfl rfl ?_
  refine z_callV E (ci := 3) (N := 5) (C := RX3) (T := TX3) (n := 1) (st := []) (vl_w (by decide) hw) rfl rfl [.int (iI one)] (kX3_slotOf l G P V (P 0) one hw hB (by omega) (by omega) (by omega)) gX5_unlike_X3_slotOf rfl ⟨rfl, rfl⟩ (by decide +kernel) ⟨Nat.le_of_ble_eq_true rfl, Nat.le_of_ble_eq_true rfl⟩ rfl rfl (Nat.le_of_ble_eq_true rfl) rfl dX5_unlike_8 (z_dtI ?_)
  have h_1a := fnd_bd (V 4 (P 0) 3) (fun k => V 5 (P 0) k = one) (by omega)
  refine z_istore E dX5_unlike_11 (L' := [some (.ref (ad G 10 0)), some (.int (iI one)), some (.int (iI other)), some (.int (iI what)), some (.int (iI (fnd (V 4 (P 0) 3) (fun k => V 5 (P 0) k = one)))), none]) (Nat.le_of_ble_eq_true rfl) rfl ?_
  refine z_aload_n E dX5_unlike_13 0 rfl rfl ?_
  refine z_get E (ci := 5) (N := 4) (C := RX5) (T := TX5) (rfl : vl 10 0 = true) rfl rfl iX5 0 (by decide) rfl f0 rfl dX5_unlike_14 ?_
  refine z_get E (ci := 4) (N := 6) (C := RX4) (T := TX4) (vl_w (by decide) hw) rfl rfl iX4 1 (by decide) rfl f1 rfl dX5_unlike_17 ?_
  refine z_iload_n E dX5_unlike_20 2 rfl rfl ?_
  refine z_callV E (ci := 3) (N := 5) (C := RX3) (T := TX3) (n := 1) (st := []) (vl_w (by decide) hw) rfl rfl [.int (iI other)] (kX3_slotOf l G P V (P 0) other hw hB (by omega) (by omega) (by omega)) gX5_unlike_X3_slotOf rfl ⟨rfl, rfl⟩ (by decide +kernel) ⟨Nat.le_of_ble_eq_true rfl, Nat.le_of_ble_eq_true rfl⟩ rfl rfl (Nat.le_of_ble_eq_true rfl) rfl dX5_unlike_21 (z_dtI ?_)
  have h_2a := fnd_bd (V 4 (P 0) 3) (fun k => V 5 (P 0) k = other) (by omega)
  refine z_istore E dX5_unlike_24 (L' := [some (.ref (ad G 10 0)), some (.int (iI one)), some (.int (iI other)), some (.int (iI what)), some (.int (iI (fnd (V 4 (P 0) 3) (fun k => V 5 (P 0) k = one)))), some (.int (iI (fnd (V 4 (P 0) 3) (fun k => V 5 (P 0) k = other))))]) (Nat.le_of_ble_eq_true rfl) rfl ?_
  refine z_iload E dX5_unlike_26 rfl ?_
  refine z_if_lt E 36 dX5_unlike_28 rfl (by omega) (fun c_3 => ?_) (fun c_3 => ?_)
  · skip
    refine z_ldc E (-1000001) f2 rfl dX5_unlike_36 ?_
    exact z_iret E dX5_unlike_38 (⟨by rw [if_pos (by omega)], rfl, rfl⟩)
  · skip
    refine z_iload E dX5_unlike_31 rfl ?_
    refine z_if_ge E 39 dX5_unlike_33 rfl (by omega) (fun c_4 => ?_) (fun c_4 => ?_)
    · skip
      refine z_iload_n E dX5_unlike_39 3 rfl rfl ?_
      by_cases q_5_0 : what = 0
      · skip
        refine z_tsI E 0 72 q_5_0 (by omega) dX5_unlike_40 (by decide) (by decide) rfl rfl ?_
        refine z_aload_n E dX5_unlike_72 0 rfl rfl ?_
        refine z_get E (ci := 5) (N := 4) (C := RX5) (T := TX5) (rfl : vl 10 0 = true) rfl rfl iX5 0 (by decide) rfl f0 rfl dX5_unlike_73 ?_
        refine z_iload E dX5_unlike_76 rfl ?_
        refine z_iload E dX5_unlike_78 rfl ?_
        refine z_callV E (ci := 4) (N := 6) (C := RX4) (T := TX4) (n := 2) (st := []) (vl_w (by decide) hw) rfl rfl [.int (iI (fnd (V 4 (P 0) 3) (fun k => V 5 (P 0) k = one))), .int (iI (fnd (V 4 (P 0) 3) (fun k => V 5 (P 0) k = other)))] (kX4_unlikeCells l G P V (P 0) (fnd (V 4 (P 0) 3) (fun k => V 5 (P 0) k = one)) (fnd (V 4 (P 0) 3) (fun k => V 5 (P 0) k = other)) hw hB (by omega) (by omega) hL (by omega) (by omega) (by omega) (by omega)) gX5_unlike_X4_unlikeCells rfl ⟨rfl, rfl⟩ (by decide +kernel) ⟨Nat.le_of_ble_eq_true rfl, Nat.le_of_ble_eq_true rfl⟩ rfl rfl (Nat.le_of_ble_eq_true rfl) rfl dX5_unlike_80 (z_dtI ?_)
        exact z_iret E dX5_unlike_83 (⟨by rw [if_neg (by omega), if_pos (by omega)], rfl, rfl⟩)
      by_cases q_5_1 : what = 1
      · skip
        refine z_tsI E 1 84 q_5_1 (by omega) dX5_unlike_40 (by decide) (by decide) rfl rfl ?_
        refine z_aload_n E dX5_unlike_84 0 rfl rfl ?_
        refine z_get E (ci := 5) (N := 4) (C := RX5) (T := TX5) (rfl : vl 10 0 = true) rfl rfl iX5 0 (by decide) rfl f0 rfl dX5_unlike_85 ?_
        refine z_iload E dX5_unlike_88 rfl ?_
        refine z_iload E dX5_unlike_90 rfl ?_
        refine z_callV E (ci := 4) (N := 6) (C := RX4) (T := TX4) (n := 2) (st := []) (vl_w (by decide) hw) rfl rfl [.int (iI (fnd (V 4 (P 0) 3) (fun k => V 5 (P 0) k = one))), .int (iI (fnd (V 4 (P 0) 3) (fun k => V 5 (P 0) k = other)))] (kX4_firstUnlikeCell l G P V (P 0) (fnd (V 4 (P 0) 3) (fun k => V 5 (P 0) k = one)) (fnd (V 4 (P 0) 3) (fun k => V 5 (P 0) k = other)) hw hB (by omega) (by omega) hL (by omega) (by omega) (by omega) (by omega)) gX5_unlike_X4_firstUnlikeCell rfl ⟨rfl, rfl⟩ (by decide +kernel) ⟨Nat.le_of_ble_eq_true rfl, Nat.le_of_ble_eq_true rfl⟩ rfl rfl (Nat.le_of_ble_eq_true rfl) rfl dX5_unlike_92 (z_dtI ?_)
        have h_7a := fnd_bd 48 (fun c => ¬ cA (V 2 (P 0)) (V 7 (P 0)) (fnd (V 4 (P 0) 3) (fun k => V 5 (P 0) k = one)) c = cA (V 2 (P 0)) (V 7 (P 0)) (fnd (V 4 (P 0) 3) (fun k => V 5 (P 0) k = other)) c) (by omega)
        refine z_callS E (n := 1) (st := []) [.int (iI (fnd 48 (fun c => ¬ cA (V 2 (P 0)) (V 7 (P 0)) (fnd (V 4 (P 0) 3) (fun k => V 5 (P 0) k = one)) c = cA (V 2 (P 0)) (V 7 (P 0)) (fnd (V 4 (P 0) 3) (fun k => V 5 (P 0) k = other)) c)))] (kX5_foundOr l G P V (fnd 48 (fun c => ¬ cA (V 2 (P 0)) (V 7 (P 0)) (fnd (V 4 (P 0) 3) (fun k => V 5 (P 0) k = one)) c = cA (V 2 (P 0)) (V 7 (P 0)) (fnd (V 4 (P 0) 3) (fun k => V 5 (P 0) k = other)) c)) (by omega)) gX5_unlike_X5_foundOr rfl ⟨rfl, rfl⟩ (by decide +kernel) ⟨Nat.le_of_ble_eq_true rfl, Nat.le_of_ble_eq_true rfl⟩ rfl rfl (Nat.le_of_ble_eq_true rfl) rfl dX5_unlike_95 (z_dtI ?_)
        exact z_iret E dX5_unlike_98 (⟨by rw [if_neg (by omega), if_neg (by omega), if_pos (by omega)], rfl, rfl⟩)
      by_cases q_5_2 : what = 2
      · skip
        refine z_tsI E 2 99 q_5_2 (by omega) dX5_unlike_40 (by decide) (by decide) rfl rfl ?_
        refine z_aload_n E dX5_unlike_99 0 rfl rfl ?_
        refine z_get E (ci := 5) (N := 4) (C := RX5) (T := TX5) (rfl : vl 10 0 = true) rfl rfl iX5 0 (by decide) rfl f0 rfl dX5_unlike_100 ?_
        refine z_get E (ci := 4) (N := 6) (C := RX4) (T := TX4) (vl_w (by decide) hw) rfl rfl iX4 1 (by decide) rfl f1 rfl dX5_unlike_103 ?_
        refine z_iload E dX5_unlike_106 rfl ?_
        refine z_iload E dX5_unlike_108 rfl ?_
        refine z_callV E (ci := 3) (N := 5) (C := RX3) (T := TX3) (n := 2) (st := []) (vl_w (by decide) hw) rfl rfl [.int (iI (fnd (V 4 (P 0) 3) (fun k => V 5 (P 0) k = one))), .int (iI (fnd (V 4 (P 0) 3) (fun k => V 5 (P 0) k = other)))] (kX3_unlikePlaces l G P V (P 0) (fnd (V 4 (P 0) 3) (fun k => V 5 (P 0) k = one)) (fnd (V 4 (P 0) 3) (fun k => V 5 (P 0) k = other)) hw hB (by omega) (by omega) hL (by omega) (by omega) (by omega) (by omega)) gX5_unlike_X3_unlikePlaces rfl ⟨rfl, rfl⟩ (by decide +kernel) ⟨Nat.le_of_ble_eq_true rfl, Nat.le_of_ble_eq_true rfl⟩ rfl rfl (Nat.le_of_ble_eq_true rfl) rfl dX5_unlike_110 (z_dtI ?_)
        exact z_iret E dX5_unlike_113 (⟨by rw [if_neg (by omega), if_neg (by omega), if_neg (by omega), if_pos (by omega)], rfl, rfl⟩)
      by_cases q_5_3 : what = 3
      · skip
        refine z_tsI E 3 114 q_5_3 (by omega) dX5_unlike_40 (by decide) (by decide) rfl rfl ?_
        refine z_aload_n E dX5_unlike_114 0 rfl rfl ?_
        refine z_get E (ci := 5) (N := 4) (C := RX5) (T := TX5) (rfl : vl 10 0 = true) rfl rfl iX5 0 (by decide) rfl f0 rfl dX5_unlike_115 ?_
        refine z_get E (ci := 4) (N := 6) (C := RX4) (T := TX4) (vl_w (by decide) hw) rfl rfl iX4 1 (by decide) rfl f1 rfl dX5_unlike_118 ?_
        refine z_aload_n E dX5_unlike_121 0 rfl rfl ?_
        refine z_get E (ci := 5) (N := 4) (C := RX5) (T := TX5) (rfl : vl 10 0 = true) rfl rfl iX5 0 (by decide) rfl f0 rfl dX5_unlike_122 ?_
        refine z_get E (ci := 4) (N := 6) (C := RX4) (T := TX4) (vl_w (by decide) hw) rfl rfl iX4 1 (by decide) rfl f1 rfl dX5_unlike_125 ?_
        refine z_iload E dX5_unlike_128 rfl ?_
        refine z_iload E dX5_unlike_130 rfl ?_
        refine z_callV E (ci := 3) (N := 5) (C := RX3) (T := TX3) (n := 2) (st := [.ref (ad G 4 (P 0))]) (vl_w (by decide) hw) rfl rfl [.int (iI (fnd (V 4 (P 0) 3) (fun k => V 5 (P 0) k = one))), .int (iI (fnd (V 4 (P 0) 3) (fun k => V 5 (P 0) k = other)))] (kX3_commonSlot l G P V (P 0) (fnd (V 4 (P 0) 3) (fun k => V 5 (P 0) k = one)) (fnd (V 4 (P 0) 3) (fun k => V 5 (P 0) k = other)) hw hB (by omega) (by omega) (by omega) (by omega) (by omega) (by omega)) gX5_unlike_X3_commonSlot rfl ⟨rfl, rfl⟩ (by decide +kernel) ⟨Nat.le_of_ble_eq_true rfl, Nat.le_of_ble_eq_true rfl⟩ rfl rfl (Nat.le_of_ble_eq_true rfl) rfl dX5_unlike_132 (z_dtI ?_)
        have hc := hcm (fnd (V 4 (P 0) 3) (fun k => V 5 (P 0) k = one)) (fnd (V 4 (P 0) 3) (fun k => V 5 (P 0) k = other)) (by omega) (by omega) (by omega) (by omega)
        refine z_callV E (ci := 3) (N := 5) (C := RX3) (T := TX3) (n := 1) (st := []) (vl_w (by decide) hw) rfl rfl [.int (iI (cmS (pS (V 4 (P 0) 3) (V 5 (P 0)) (V 6 (P 0))) 32 (fnd (V 4 (P 0) 3) (fun k => V 5 (P 0) k = one)) (fnd (V 4 (P 0) 3) (fun k => V 5 (P 0) k = other))))] (kX3_numberOf l G P V (P 0) (cmS (pS (V 4 (P 0) 3) (V 5 (P 0)) (V 6 (P 0))) 32 (fnd (V 4 (P 0) 3) (fun k => V 5 (P 0) k = one)) (fnd (V 4 (P 0) 3) (fun k => V 5 (P 0) k = other))) hw hB (by omega) (by omega) (by omega)) gX5_unlike_X3_numberOf rfl ⟨rfl, rfl⟩ (by decide +kernel) ⟨Nat.le_of_ble_eq_true rfl, Nat.le_of_ble_eq_true rfl⟩ rfl rfl (Nat.le_of_ble_eq_true rfl) rfl dX5_unlike_135 (z_dtI ?_)
        have h_11a := nO_R hB (P 0) (V 4 (P 0) 3) (cmS (pS (V 4 (P 0) 3) (V 5 (P 0)) (V 6 (P 0))) 32 (fnd (V 4 (P 0) 3) (fun k => V 5 (P 0) k = one)) (fnd (V 4 (P 0) 3) (fun k => V 5 (P 0) k = other)))
        exact z_iret E dX5_unlike_138 (⟨by rw [if_neg (by omega), if_neg (by omega), if_neg (by omega), if_neg (by omega), if_pos (by omega)], rfl, rfl⟩)
      refine z_tsO E 139 (by omega) dX5_unlike_40 (by omega) rfl ?_
      refine z_ldc E (-1000001) f2 rfl dX5_unlike_139 ?_
      exact z_iret E dX5_unlike_141 (⟨by rw [if_neg (by omega), if_neg (by omega), if_neg (by omega), if_neg (by omega), if_neg (by omega)], rfl, rfl⟩)
    · skip
      refine z_ldc E (-1000001) f2 rfl dX5_unlike_36 ?_
      exact z_iret E dX5_unlike_38 (⟨by rw [if_pos (by omega)], rfl, rfl⟩)

set_option maxHeartbeats 4000000 in
set_option maxRecDepth 100000 in
theorem kX5_like (l : Launch) (G : Gl) (P : Nat → Nat) (V : Vt) (state : Int) (hw : P 0 < 6) (hB : BV V) (hn0 : 0 ≤ V 4 (P 0) 3) (hn1 : V 4 (P 0) 3 ≤ 16) (hL : ∀ j, 0 ≤ V 7 (P 0) j ∧ V 7 (P 0) j < 40) (a1 : inR state) : Met l yX5_like wsX5_like ({ frames := 3, cells := 0, slots := 0, locals := 68 }) (va_Pc [.ref (ad G 10 0), .int (iI state)] (Sg G P V)) (Qk G mkI (dt (if (fnd (V 4 (P 0) 3) (fun k => V 5 (P 0) k = state)) < 0 then -1000001 else if fnd (V 4 (P 0) 3) (fun o => ¬ o = (fnd (V 4 (P 0) 3) (fun k => V 5 (P 0) k = state)) ∧ fnd 48 (fun c => ¬ cA (V 2 (P 0)) (V 7 (P 0)) (fnd (V 4 (P 0) 3) (fun k => V 5 (P 0) k = state)) c = cA (V 2 (P 0)) (V 7 (P 0)) o c) = -1) < 0 then -1000004 else V 5 (P 0) (fnd (V 4 (P 0) 3) (fun o => ¬ o = (fnd (V 4 (P 0) 3) (fun k => V 5 (P 0) k = state)) ∧ fnd 48 (fun c => ¬ cA (V 2 (P 0)) (V 7 (P 0)) (fnd (V 4 (P 0) 3) (fun k => V 5 (P 0) k = state)) c = cA (V 2 (P 0)) (V 7 (P 0)) o c) = -1))) P V)) 0 0 (mem G) := by
  refine z_met (cc := cX5_like) (nL := 4) (ret := (some .int)) (own := RX5) (by decide +kernel) rfl rfl (Nat.le_of_ble_eq_true rfl) (zz_cat rfl) (L := [some (.ref (ad G 10 0)), some (.int (iI state)), none, none]) rfl ?_
  intro X E
  have iX3 : ∀ x ∈ wsX30, x ∈ wsX5_like := by decide +kernel
  have iX4 : ∀ x ∈ wsX40, x ∈ wsX5_like := by decide +kernel
  have iX5 : ∀ x ∈ wsX50, x ∈ wsX5_like := by decide +kernel
  have f0 : Cond.fieldLink RX5 10 "SharedStates" "world" "LSharedStates$World;" ∈ wsX5_like := by decide +kernel
  have f1 : Cond.fieldLink RX5 72 "SharedStates$World" "states" "LSharedStates$States;" ∈ wsX5_like := by decide +kernel
  have f2 : Cond.fieldLink RX5 167 "SharedStates$States" "size" "I" ∈ wsX5_like := by decide +kernel
  have f3 : Cond.constant RX5 104 (-1000004) ∈ wsX5_like := by decide +kernel
  have f4 : Cond.constant RX5 85 (-1000001) ∈ wsX5_like := by decide +kernel
  refine z_aload_n E dX5_like_0 0 rfl rfl ?_
  refine z_get E (ci := 5) (N := 4) (C := RX5) (T := TX5) (rfl : vl 10 0 = true) rfl rfl iX5 0 (by decide) rfl f0 rfl dX5_like_1 ?_
  refine z_get E (ci := 4) (N := 6) (C := RX4) (T := TX4) (vl_w (by decide) hw) rfl rfl iX4 1 (by decide) rfl f1 rfl dX5_like_4 ?_
  refine z_iload_n E dX5_like_7 1 rfl rfl ?_
  refine z_callV E (ci := 3) (N := 5) (C := RX3) (T := TX3) (n := 1) (st := []) (vl_w (by decide) hw) rfl rfl [.int (iI state)] (kX3_slotOf l G P V (P 0) state hw hB (by omega) (by omega) (by omega)) gX5_like_X3_slotOf rfl ⟨rfl, rfl⟩ (by decide +kernel) ⟨Nat.le_of_ble_eq_true rfl, Nat.le_of_ble_eq_true rfl⟩ rfl rfl (Nat.le_of_ble_eq_true rfl) rfl dX5_like_8 (z_dtI ?_)
  have h_1a := fnd_bd (V 4 (P 0) 3) (fun k => V 5 (P 0) k = state) (by omega)
  refine z_istore_n E dX5_like_11 2 rfl (L' := [some (.ref (ad G 10 0)), some (.int (iI state)), some (.int (iI (fnd (V 4 (P 0) 3) (fun k => V 5 (P 0) k = state)))), none]) (Nat.le_of_ble_eq_true rfl) rfl ?_
  refine z_iload_n E dX5_like_12 2 rfl rfl ?_
  refine z_if_ge E 19 dX5_like_13 rfl (by omega) (fun c_2 => ?_) (fun c_2 => ?_)
  · skip
    refine z_iconst E dX5_like_19 ?_
    refine z_istore_n E dX5_like_20 3 rfl (L' := [some (.ref (ad G 10 0)), some (.int (iI state)), some (.int (iI (fnd (V 4 (P 0) 3) (fun k => V 5 (P 0) k = state)))), some (.int (iI 0))]) (Nat.le_of_ble_eq_true rfl) rfl ?_
    have lp_21_3 : ∀ (fuel : Nat) (k : Int), (0 ≤ k) → (k ≤ V 4 (P 0) 3) → (∀ o, 0 ≤ o → o < k → ¬ (¬ o = (fnd (V 4 (P 0) 3) (fun k => V 5 (P 0) k = state)) ∧ fnd 48 (fun c => ¬ cA (V 2 (P 0)) (V 7 (P 0)) (fnd (V 4 (P 0) 3) (fun k => V 5 (P 0) k = state)) c = cA (V 2 (P 0)) (V 7 (P 0)) o c) = -1)) → (V 4 (P 0) 3 - k : Int).toNat < fuel → Kz X G P V [some (.ref (ad G 10 0)), some (.int (iI state)), some (.int (iI (fnd (V 4 (P 0) 3) (fun k => V 5 (P 0) k = state)))), some (.int (iI k))] 21 [] := by
      intro fuel
      induction fuel with
      | zero => intro k hk0 hk1 hla hf_21; exact absurd hf_21 (Nat.not_lt_zero _)
      | succ fuel ih_21 =>
        intro k hk0 hk1 hla hf_21
        refine z_iload_n E dX5_like_21 3 rfl rfl ?_
        refine z_aload_n E dX5_like_22 0 rfl rfl ?_
        refine z_get E (ci := 5) (N := 4) (C := RX5) (T := TX5) (rfl : vl 10 0 = true) rfl rfl iX5 0 (by decide) rfl f0 rfl dX5_like_23 ?_
        refine z_get E (ci := 4) (N := 6) (C := RX4) (T := TX4) (vl_w (by decide) hw) rfl rfl iX4 1 (by decide) rfl f1 rfl dX5_like_26 ?_
        have hr_4 := hB.g 4 (P 0) 3 rfl
        refine z_get E (ci := 3) (N := 5) (C := RX3) (T := TX3) (vl_w (by decide) hw) rfl rfl iX3 3 (by decide) rfl f2 rfl dX5_like_29 ?_
        refine z_icmp_ge E 71 dX5_like_32 rfl (by omega) (by omega) (fun c_5 => ?_) (fun c_5 => ?_)
        · skip
          refine z_ldc E (-1000004) f3 rfl dX5_like_71 ?_
          exact z_iret E dX5_like_73 (by
              have hf : fnd (V 4 (P 0) 3) (fun o => ¬ o = (fnd (V 4 (P 0) 3) (fun k => V 5 (P 0) k = state)) ∧ fnd 48 (fun c => ¬ cA (V 2 (P 0)) (V 7 (P 0)) (fnd (V 4 (P 0) 3) (fun k => V 5 (P 0) k = state)) c = cA (V 2 (P 0)) (V 7 (P 0)) o c) = -1) = -1 := fnd_n (fun j h0 h1 => hla j h0 (by omega))
              exact ⟨by rw [if_neg (by omega), if_pos (by omega)], rfl, rfl⟩)
        · skip
          refine z_iload_n E dX5_like_35 3 rfl rfl ?_
          refine z_iload_n E dX5_like_36 2 rfl rfl ?_
          refine z_icmp_eq E 65 dX5_like_37 rfl (by omega) (by omega) (fun c_6 => ?_) (fun c_6 => ?_)
          · skip
            refine z_iinc E k dX5_like_65 (L' := [some (.ref (ad G 10 0)), some (.int (iI state)), some (.int (iI (fnd (V 4 (P 0) 3) (fun k => V 5 (P 0) k = state)))), some (.int (iI (k + 1)))]) (Nat.le_of_ble_eq_true rfl) rfl rfl ?_
            refine z_goto E 21 dX5_like_68 rfl ?_
            exact ih_21 (k + 1) (by omega) (by omega) (all_s hla (by first | exact fun z => absurd (by assumption) z.1 | exact fun z => absurd z.2 (by assumption))) (by omega)
          · skip
            refine z_aload_n E dX5_like_40 0 rfl rfl ?_
            refine z_get E (ci := 5) (N := 4) (C := RX5) (T := TX5) (rfl : vl 10 0 = true) rfl rfl iX5 0 (by decide) rfl f0 rfl dX5_like_41 ?_
            refine z_iload_n E dX5_like_44 2 rfl rfl ?_
            refine z_iload_n E dX5_like_45 3 rfl rfl ?_
            refine z_callV E (ci := 4) (N := 6) (C := RX4) (T := TX4) (n := 2) (st := []) (vl_w (by decide) hw) rfl rfl [.int (iI (fnd (V 4 (P 0) 3) (fun k => V 5 (P 0) k = state))), .int (iI k)] (kX4_firstUnlikeCell l G P V (P 0) (fnd (V 4 (P 0) 3) (fun k => V 5 (P 0) k = state)) k hw hB (by omega) (by omega) hL (by omega) (by omega) (by omega) (by omega)) gX5_like_X4_firstUnlikeCell rfl ⟨rfl, rfl⟩ (by decide +kernel) ⟨Nat.le_of_ble_eq_true rfl, Nat.le_of_ble_eq_true rfl⟩ rfl rfl (Nat.le_of_ble_eq_true rfl) rfl dX5_like_46 (z_dtI ?_)
            have h_7a := fnd_bd 48 (fun c => ¬ cA (V 2 (P 0)) (V 7 (P 0)) (fnd (V 4 (P 0) 3) (fun k => V 5 (P 0) k = state)) c = cA (V 2 (P 0)) (V 7 (P 0)) k c) (by omega)
            refine z_iconst E dX5_like_49 ?_
            refine z_icmp_ne E 65 dX5_like_50 rfl (by omega) (by omega) (fun c_8 => ?_) (fun c_8 => ?_)
            · skip
              refine z_iinc E k dX5_like_65 (L' := [some (.ref (ad G 10 0)), some (.int (iI state)), some (.int (iI (fnd (V 4 (P 0) 3) (fun k => V 5 (P 0) k = state)))), some (.int (iI (k + 1)))]) (Nat.le_of_ble_eq_true rfl) rfl rfl ?_
              refine z_goto E 21 dX5_like_68 rfl ?_
              exact ih_21 (k + 1) (by omega) (by omega) (all_s hla (by first | exact fun z => absurd (by assumption) z.1 | exact fun z => absurd z.2 (by assumption))) (by omega)
            · skip
              refine z_aload_n E dX5_like_53 0 rfl rfl ?_
              refine z_get E (ci := 5) (N := 4) (C := RX5) (T := TX5) (rfl : vl 10 0 = true) rfl rfl iX5 0 (by decide) rfl f0 rfl dX5_like_54 ?_
              refine z_get E (ci := 4) (N := 6) (C := RX4) (T := TX4) (vl_w (by decide) hw) rfl rfl iX4 1 (by decide) rfl f1 rfl dX5_like_57 ?_
              refine z_iload_n E dX5_like_60 3 rfl rfl ?_
              refine z_callV E (ci := 3) (N := 5) (C := RX3) (T := TX3) (n := 1) (st := []) (vl_w (by decide) hw) rfl rfl [.int (iI k)] (kX3_numberOf l G P V (P 0) k hw hB (by omega) (by omega) (by omega)) gX5_like_X3_numberOf rfl ⟨rfl, rfl⟩ (by decide +kernel) ⟨Nat.le_of_ble_eq_true rfl, Nat.le_of_ble_eq_true rfl⟩ rfl rfl (Nat.le_of_ble_eq_true rfl) rfl dX5_like_61 (z_dtI ?_)
              have h_9a := nO_R hB (P 0) (V 4 (P 0) 3) k
              rw [nO_t (by omega) (by omega)]
              exact z_iret E dX5_like_64 (by
                  have hf : fnd (V 4 (P 0) 3) (fun o => ¬ o = (fnd (V 4 (P 0) 3) (fun k => V 5 (P 0) k = state)) ∧ fnd 48 (fun c => ¬ cA (V 2 (P 0)) (V 7 (P 0)) (fnd (V 4 (P 0) 3) (fun k => V 5 (P 0) k = state)) c = cA (V 2 (P 0)) (V 7 (P 0)) o c) = -1) = k := fnd_y (by omega) (by omega) ⟨by assumption, by assumption⟩ hla
                  exact ⟨by rw [hf, if_neg (by omega), if_neg (by omega)], rfl, rfl⟩)
    exact lp_21_3 ((V 4 (P 0) 3 - 0 : Int).toNat + 1) 0 (by omega) (by omega) all_0 (Nat.lt_succ_self _)
  · skip
    refine z_ldc E (-1000001) f4 rfl dX5_like_16 ?_
    exact z_iret E dX5_like_18 (⟨by rw [if_pos (by omega)], rfl, rfl⟩)

set_option maxHeartbeats 4000000 in
set_option maxRecDepth 100000 in
theorem kX5_before (l : Launch) (G : Gl) (P : Nat → Nat) (V : Vt) (state : Int) (cell : Int) (hw : P 0 < 6) (hB : BV V) (hn0 : 0 ≤ V 4 (P 0) 3) (hn1 : V 4 (P 0) 3 ≤ 16) (hL : ∀ j, 0 ≤ V 7 (P 0) j ∧ V 7 (P 0) j < 40) (a1 : inR state) (a2 : inR cell) : Met l yX5_before wsX5_before ({ frames := 2, cells := 0, slots := 0, locals := 45 }) (va_Pc [.ref (ad G 10 0), .int (iI state), .int (iI cell)] (Sg G P V)) (Qk G mkI (dt (if 0 ≤ (fnd (V 4 (P 0) 3) (fun k => V 5 (P 0) k = state)) ∧ 0 ≤ cell ∧ cell < 48 then bfF (pS (V 4 (P 0) 3) (V 5 (P 0)) (V 6 (P 0))) (V 5 (P 0)) (fun s => ¬ cA (V 2 (P 0)) (V 7 (P 0)) s cell = cA (V 2 (P 0)) (V 7 (P 0)) (fnd (V 4 (P 0) 3) (fun k => V 5 (P 0) k = state)) cell) 16 (fnd (V 4 (P 0) 3) (fun k => V 5 (P 0) k = state)) else -1000001) P V)) 0 0 (mem G) := by
  refine z_met (cc := cX5_before) (nL := 6) (ret := (some .int)) (own := RX5) (by decide +kernel) rfl rfl (Nat.le_of_ble_eq_true rfl) (zz_cat rfl) (L := [some (.ref (ad G 10 0)), some (.int (iI state)), some (.int (iI cell)), none, none, none]) rfl ?_
  intro X E
  have iX4 : ∀ x ∈ wsX40, x ∈ wsX5_before := by decide +kernel
  have iX5 : ∀ x ∈ wsX50, x ∈ wsX5_before := by decide +kernel
  have f0 : Cond.fieldLink RX5 10 "SharedStates" "world" "LSharedStates$World;" ∈ wsX5_before := by decide +kernel
  have f1 : Cond.fieldLink RX5 72 "SharedStates$World" "states" "LSharedStates$States;" ∈ wsX5_before := by decide +kernel
  have f2 : Cond.constant RX5 85 (-1000001) ∈ wsX5_before := by decide +kernel
  have f3 : Cond.constant RX5 104 (-1000004) ∈ wsX5_before := by decide +kernel
  refine z_aload_n E dX5_before_0 0 rfl rfl ?_
  refine z_get E (ci := 5) (N := 4) (C := RX5) (T := TX5) (rfl : vl 10 0 = true) rfl rfl iX5 0 (by decide) rfl f0 rfl dX5_before_1 ?_
  refine z_get E (ci := 4) (N := 6) (C := RX4) (T := TX4) (vl_w (by decide) hw) rfl rfl iX4 1 (by decide) rfl f1 rfl dX5_before_4 ?_
  refine z_iload_n E dX5_before_7 1 rfl rfl ?_
  refine z_callV E (ci := 3) (N := 5) (C := RX3) (T := TX3) (n := 1) (st := []) (vl_w (by decide) hw) rfl rfl [.int (iI state)] (kX3_slotOf l G P V (P 0) state hw hB (by omega) (by omega) (by omega)) gX5_before_X3_slotOf rfl ⟨rfl, rfl⟩ (by decide +kernel) ⟨Nat.le_of_ble_eq_true rfl, Nat.le_of_ble_eq_true rfl⟩ rfl rfl (Nat.le_of_ble_eq_true rfl) rfl dX5_before_8 (z_dtI ?_)
  have h_1a := fnd_bd (V 4 (P 0) 3) (fun k => V 5 (P 0) k = state) (by omega)
  refine z_istore_n E dX5_before_11 3 rfl (L' := [some (.ref (ad G 10 0)), some (.int (iI state)), some (.int (iI cell)), some (.int (iI (fnd (V 4 (P 0) 3) (fun k => V 5 (P 0) k = state)))), none, none]) (Nat.le_of_ble_eq_true rfl) rfl ?_
  refine z_iload_n E dX5_before_12 3 rfl rfl ?_
  refine z_if_lt E 25 dX5_before_13 rfl (by omega) (fun c_2 => ?_) (fun c_2 => ?_)
  · skip
    refine z_ldc E (-1000001) f2 rfl dX5_before_25 ?_
    exact z_iret E dX5_before_27 (⟨by rw [if_neg (by omega)], rfl, rfl⟩)
  · skip
    refine z_iload_n E dX5_before_16 2 rfl rfl ?_
    refine z_bipush E dX5_before_17 rfl ?_
    refine z_callS E (n := 2) (st := []) [.int (iI cell), .int (iI 48)] (kX5_isIndex l G P V cell 48 (by omega) (by omega)) gX5_before_X5_isIndex rfl ⟨rfl, rfl⟩ (by decide +kernel) ⟨Nat.le_of_ble_eq_true rfl, Nat.le_of_ble_eq_true rfl⟩ rfl rfl (Nat.le_of_ble_eq_true rfl) rfl dX5_before_19 (z_dtI ?_)
    refine z_ifne_b E 28 dX5_before_22 rfl (fun c_4 => ?_) (fun c_4 => ?_)
    · skip
      refine z_aload_n E dX5_before_28 0 rfl rfl ?_
      refine z_get E (ci := 5) (N := 4) (C := RX5) (T := TX5) (rfl : vl 10 0 = true) rfl rfl iX5 0 (by decide) rfl f0 rfl dX5_before_29 ?_
      refine z_iload_n E dX5_before_32 3 rfl rfl ?_
      refine z_iload_n E dX5_before_33 2 rfl rfl ?_
      refine z_callV E (ci := 4) (N := 6) (C := RX4) (T := TX4) (n := 2) (st := []) (vl_w (by decide) hw) rfl rfl [.int (iI (fnd (V 4 (P 0) 3) (fun k => V 5 (P 0) k = state))), .int (iI cell)] (kX4_cellAt l G P V (P 0) (fnd (V 4 (P 0) 3) (fun k => V 5 (P 0) k = state)) cell hw hB (by omega) (by omega) hL (by omega) (by omega) (by omega) (by omega)) gX5_before_X4_cellAt rfl ⟨rfl, rfl⟩ (by decide +kernel) ⟨Nat.le_of_ble_eq_true rfl, Nat.le_of_ble_eq_true rfl⟩ rfl rfl (Nat.le_of_ble_eq_true rfl) rfl dX5_before_34 (z_dtI ?_)
      have h_5a := cA_R hB (P 0) (fnd (V 4 (P 0) 3) (fun k => V 5 (P 0) k = state)) cell
      refine z_istore E dX5_before_37 (L' := [some (.ref (ad G 10 0)), some (.int (iI state)), some (.int (iI cell)), some (.int (iI (fnd (V 4 (P 0) 3) (fun k => V 5 (P 0) k = state)))), some (.int (iI (cA (V 2 (P 0)) (V 7 (P 0)) (fnd (V 4 (P 0) 3) (fun k => V 5 (P 0) k = state)) cell))), none]) (Nat.le_of_ble_eq_true rfl) rfl ?_
      refine z_iconst E dX5_before_39 ?_
      refine z_istore E dX5_before_40 (L' := [some (.ref (ad G 10 0)), some (.int (iI state)), some (.int (iI cell)), some (.int (iI (fnd (V 4 (P 0) 3) (fun k => V 5 (P 0) k = state)))), some (.int (iI (cA (V 2 (P 0)) (V 7 (P 0)) (fnd (V 4 (P 0) 3) (fun k => V 5 (P 0) k = state)) cell))), some (.int (iI 0))]) (Nat.le_of_ble_eq_true rfl) rfl ?_
      have lp_42_6 : ∀ (fuel : Nat) (s : Int) (i : Int), (0 ≤ i) → (i ≤ 16) → (-1 ≤ s) → (s < V 4 (P 0) 3) → (bfF (pS (V 4 (P 0) 3) (V 5 (P 0)) (V 6 (P 0))) (V 5 (P 0)) (fun s => ¬ cA (V 2 (P 0)) (V 7 (P 0)) s cell = cA (V 2 (P 0)) (V 7 (P 0)) (fnd (V 4 (P 0) 3) (fun k => V 5 (P 0) k = state)) cell) (16 - i).toNat s = bfF (pS (V 4 (P 0) 3) (V 5 (P 0)) (V 6 (P 0))) (V 5 (P 0)) (fun s => ¬ cA (V 2 (P 0)) (V 7 (P 0)) s cell = cA (V 2 (P 0)) (V 7 (P 0)) (fnd (V 4 (P 0) 3) (fun k => V 5 (P 0) k = state)) cell) 16 (fnd (V 4 (P 0) 3) (fun k => V 5 (P 0) k = state))) → (16 - i : Int).toNat < fuel → Kz X G P V [some (.ref (ad G 10 0)), some (.int (iI state)), some (.int (iI cell)), some (.int (iI s)), some (.int (iI (cA (V 2 (P 0)) (V 7 (P 0)) (fnd (V 4 (P 0) 3) (fun k => V 5 (P 0) k = state)) cell))), some (.int (iI i))] 42 [] := by
        intro fuel
        induction fuel with
        | zero => intro s i hi0 hi1 hs0 hs1 hm hf_42; exact absurd hf_42 (Nat.not_lt_zero _)
        | succ fuel ih_42 =>
          intro s i hi0 hi1 hs0 hs1 hm hf_42
          refine z_iload E dX5_before_42 rfl ?_
          refine z_bipush E dX5_before_44 rfl ?_
          refine z_icmp_ge E 97 dX5_before_46 rfl (by omega) (by omega) (fun c_7 => ?_) (fun c_7 => ?_)
          · skip
            refine z_ldc E (-1000004) f3 rfl dX5_before_97 ?_
            exact z_iret E dX5_before_99 (⟨by first | (rw [if_pos (by omega), ← hm, bfF_n (by omega)]; done) | (rw [if_pos (by omega), ← hm, show (16 - i).toNat = 0 by omega] <;> rfl), rfl, rfl⟩)
          · skip
            refine z_iload_n E dX5_before_49 3 rfl rfl ?_
            refine z_if_lt E 97 dX5_before_50 rfl (by omega) (fun c_8 => ?_) (fun c_8 => ?_)
            · skip
              refine z_ldc E (-1000004) f3 rfl dX5_before_97 ?_
              exact z_iret E dX5_before_99 (⟨by first | (rw [if_pos (by omega), ← hm, bfF_n (by omega)]; done) | (rw [if_pos (by omega), ← hm, show (16 - i).toNat = 0 by omega] <;> rfl), rfl, rfl⟩)
            · skip
              refine z_aload_n E dX5_before_53 0 rfl rfl ?_
              refine z_get E (ci := 5) (N := 4) (C := RX5) (T := TX5) (rfl : vl 10 0 = true) rfl rfl iX5 0 (by decide) rfl f0 rfl dX5_before_54 ?_
              refine z_iload_n E dX5_before_57 3 rfl rfl ?_
              refine z_iload_n E dX5_before_58 2 rfl rfl ?_
              refine z_callV E (ci := 4) (N := 6) (C := RX4) (T := TX4) (n := 2) (st := []) (vl_w (by decide) hw) rfl rfl [.int (iI s), .int (iI cell)] (kX4_cellAt l G P V (P 0) s cell hw hB (by omega) (by omega) hL (by omega) (by omega) (by omega) (by omega)) gX5_before_X4_cellAt rfl ⟨rfl, rfl⟩ (by decide +kernel) ⟨Nat.le_of_ble_eq_true rfl, Nat.le_of_ble_eq_true rfl⟩ rfl rfl (Nat.le_of_ble_eq_true rfl) rfl dX5_before_59 (z_dtI ?_)
              have h_9a := cA_R hB (P 0) s cell
              refine z_iload E dX5_before_62 rfl ?_
              refine z_icmp_eq E 79 dX5_before_64 rfl (by omega) (by omega) (fun c_10 => ?_) (fun c_10 => ?_)
              · skip
                refine z_aload_n E dX5_before_79 0 rfl rfl ?_
                refine z_get E (ci := 5) (N := 4) (C := RX5) (T := TX5) (rfl : vl 10 0 = true) rfl rfl iX5 0 (by decide) rfl f0 rfl dX5_before_80 ?_
                refine z_get E (ci := 4) (N := 6) (C := RX4) (T := TX4) (vl_w (by decide) hw) rfl rfl iX4 1 (by decide) rfl f1 rfl dX5_before_83 ?_
                refine z_iload_n E dX5_before_86 3 rfl rfl ?_
                refine z_callV E (ci := 3) (N := 5) (C := RX3) (T := TX3) (n := 1) (st := []) (vl_w (by decide) hw) rfl rfl [.int (iI s)] (kX3_parentSlot l G P V (P 0) s hw hB (by omega) (by omega) (by omega) (by omega)) gX5_before_X3_parentSlot rfl ⟨rfl, rfl⟩ (by decide +kernel) ⟨Nat.le_of_ble_eq_true rfl, Nat.le_of_ble_eq_true rfl⟩ rfl rfl (Nat.le_of_ble_eq_true rfl) rfl dX5_before_87 (z_dtI ?_)
                have h_11a := fnd_bd (V 4 (P 0) 3) (fun k => V 5 (P 0) k = V 6 (P 0) s) (by omega)
                refine z_istore_n E dX5_before_90 3 rfl (L' := [some (.ref (ad G 10 0)), some (.int (iI state)), some (.int (iI cell)), some (.int (iI (fnd (V 4 (P 0) 3) (fun k => V 5 (P 0) k = V 6 (P 0) s)))), some (.int (iI (cA (V 2 (P 0)) (V 7 (P 0)) (fnd (V 4 (P 0) 3) (fun k => V 5 (P 0) k = state)) cell))), some (.int (iI i))]) (Nat.le_of_ble_eq_true rfl) rfl ?_
                refine z_iinc E i dX5_before_91 (L' := [some (.ref (ad G 10 0)), some (.int (iI state)), some (.int (iI cell)), some (.int (iI (fnd (V 4 (P 0) 3) (fun k => V 5 (P 0) k = V 6 (P 0) s)))), some (.int (iI (cA (V 2 (P 0)) (V 7 (P 0)) (fnd (V 4 (P 0) 3) (fun k => V 5 (P 0) k = state)) cell))), some (.int (iI (i + 1)))]) (Nat.le_of_ble_eq_true rfl) rfl rfl ?_
                refine z_goto E 42 dX5_before_94 rfl ?_
                exact ih_42 (fnd (V 4 (P 0) 3) (fun k => V 5 (P 0) k = V 6 (P 0) s)) (i + 1) (by omega) (by omega) (by omega) (by omega) (by rw [← hm, show (16 - i).toNat = (16 - (i + 1)).toNat + 1 by omega, bfF_s (by omega) (fun z => z (by assumption))] <;> rfl) (by omega)
              · skip
                refine z_aload_n E dX5_before_67 0 rfl rfl ?_
                refine z_get E (ci := 5) (N := 4) (C := RX5) (T := TX5) (rfl : vl 10 0 = true) rfl rfl iX5 0 (by decide) rfl f0 rfl dX5_before_68 ?_
                refine z_get E (ci := 4) (N := 6) (C := RX4) (T := TX4) (vl_w (by decide) hw) rfl rfl iX4 1 (by decide) rfl f1 rfl dX5_before_71 ?_
                refine z_iload_n E dX5_before_74 3 rfl rfl ?_
                refine z_callV E (ci := 3) (N := 5) (C := RX3) (T := TX3) (n := 1) (st := []) (vl_w (by decide) hw) rfl rfl [.int (iI s)] (kX3_numberOf l G P V (P 0) s hw hB (by omega) (by omega) (by omega)) gX5_before_X3_numberOf rfl ⟨rfl, rfl⟩ (by decide +kernel) ⟨Nat.le_of_ble_eq_true rfl, Nat.le_of_ble_eq_true rfl⟩ rfl rfl (Nat.le_of_ble_eq_true rfl) rfl dX5_before_75 (z_dtI ?_)
                have h_12a := nO_R hB (P 0) (V 4 (P 0) 3) s
                rw [nO_t (by omega) (by omega)]
                exact z_iret E dX5_before_78 (⟨by rw [if_pos (by omega), ← hm, show (16 - i).toNat = (16 - (i + 1)).toNat + 1 by omega, bfF_y (by omega) (by assumption)], rfl, rfl⟩)
      exact lp_42_6 ((16 - 0 : Int).toNat + 1) (fnd (V 4 (P 0) 3) (fun k => V 5 (P 0) k = state)) 0 (by omega) (by omega) (by omega) (by omega) rfl (Nat.lt_succ_self _)
    · skip
      refine z_ldc E (-1000001) f2 rfl dX5_before_25 ?_
      exact z_iret E dX5_before_27 (⟨by rw [if_neg (by omega)], rfl, rfl⟩)

set_option maxHeartbeats 4000000 in
set_option maxRecDepth 100000 in
theorem kX5_frees (l : Launch) (G : Gl) (P : Nat → Nat) (V : Vt) (state : Int) (hw : P 0 < 6) (hB : BV V) (hn0 : 0 ≤ V 4 (P 0) 3) (hn1 : V 4 (P 0) 3 ≤ 16) (hL : ∀ j, 0 ≤ V 7 (P 0) j ∧ V 7 (P 0) j < 40) (a1 : inR state) : Met l yX5_frees wsX5_frees ({ frames := 4, cells := 0, slots := 0, locals := 93 }) (va_Pc [.ref (ad G 10 0), .int (iI state)] (Sg G P V)) (Qk G mkI (dt (if (fnd (V 4 (P 0) 3) (fun k => V 5 (P 0) k = state)) < 0 then -1000001 else @ite _ (0 < (fnd (V 4 (P 0) 3) (fun k => V 5 (P 0) k = state)) ∧ bits 4 (fun b => V 8 (P 0) b = V 5 (P 0) (fnd (V 4 (P 0) 3) (fun k => V 5 (P 0) k = state))) = 0) (Classical.propDecidable _) (sm 6 (fun q => b2i (V 3 (P 0) (V 7 (P 0) ((fnd (V 4 (P 0) 3) (fun k => V 5 (P 0) k = state)) * 6 + q)) = sm 6 (fun p => b2i (V 7 (P 0) ((fnd (V 4 (P 0) 3) (fun k => V 5 (P 0) k = state)) * 6 + p) = V 7 (P 0) ((fnd (V 4 (P 0) 3) (fun k => V 5 (P 0) k = state)) * 6 + q))) ∧ ∀ e, 0 ≤ e → e < q → ¬ V 7 (P 0) ((fnd (V 4 (P 0) 3) (fun k => V 5 (P 0) k = state)) * 6 + e) = V 7 (P 0) ((fnd (V 4 (P 0) 3) (fun k => V 5 (P 0) k = state)) * 6 + q)))) (-1000002)) P V)) 0 0 (mem G) := by
  refine z_met (cc := cX5_frees) (nL := 3) (ret := (some .int)) (own := RX5) (by decide +kernel) rfl rfl (Nat.le_of_ble_eq_true rfl) (zz_cat rfl) (L := [some (.ref (ad G 10 0)), some (.int (iI state)), none]) rfl ?_
  intro X E
  have iX4 : ∀ x ∈ wsX40, x ∈ wsX5_frees := by decide +kernel
  have iX5 : ∀ x ∈ wsX50, x ∈ wsX5_frees := by decide +kernel
  have f0 : Cond.fieldLink RX5 10 "SharedStates" "world" "LSharedStates$World;" ∈ wsX5_frees := by decide +kernel
  have f1 : Cond.fieldLink RX5 72 "SharedStates$World" "states" "LSharedStates$States;" ∈ wsX5_frees := by decide +kernel
  have f2 : Cond.constant RX5 184 (-1000002) ∈ wsX5_frees := by decide +kernel
  have f3 : Cond.constant RX5 85 (-1000001) ∈ wsX5_frees := by decide +kernel
  refine z_aload_n E dX5_frees_0 0 rfl rfl ?_
  refine z_get E (ci := 5) (N := 4) (C := RX5) (T := TX5) (rfl : vl 10 0 = true) rfl rfl iX5 0 (by decide) rfl f0 rfl dX5_frees_1 ?_
  refine z_get E (ci := 4) (N := 6) (C := RX4) (T := TX4) (vl_w (by decide) hw) rfl rfl iX4 1 (by decide) rfl f1 rfl dX5_frees_4 ?_
  refine z_iload_n E dX5_frees_7 1 rfl rfl ?_
  refine z_callV E (ci := 3) (N := 5) (C := RX3) (T := TX3) (n := 1) (st := []) (vl_w (by decide) hw) rfl rfl [.int (iI state)] (kX3_slotOf l G P V (P 0) state hw hB (by omega) (by omega) (by omega)) gX5_frees_X3_slotOf rfl ⟨rfl, rfl⟩ (by decide +kernel) ⟨Nat.le_of_ble_eq_true rfl, Nat.le_of_ble_eq_true rfl⟩ rfl rfl (Nat.le_of_ble_eq_true rfl) rfl dX5_frees_8 (z_dtI ?_)
  have h_1a := fnd_bd (V 4 (P 0) 3) (fun k => V 5 (P 0) k = state) (by omega)
  refine z_istore_n E dX5_frees_11 2 rfl (L' := [some (.ref (ad G 10 0)), some (.int (iI state)), some (.int (iI (fnd (V 4 (P 0) 3) (fun k => V 5 (P 0) k = state))))]) (Nat.le_of_ble_eq_true rfl) rfl ?_
  refine z_iload_n E dX5_frees_12 2 rfl rfl ?_
  refine z_if_ge E 19 dX5_frees_13 rfl (by omega) (fun c_2 => ?_) (fun c_2 => ?_)
  · skip
    refine z_aload_n E dX5_frees_19 0 rfl rfl ?_
    refine z_get E (ci := 5) (N := 4) (C := RX5) (T := TX5) (rfl : vl 10 0 = true) rfl rfl iX5 0 (by decide) rfl f0 rfl dX5_frees_20 ?_
    refine z_iload_n E dX5_frees_23 2 rfl rfl ?_
    refine z_callV E (ci := 4) (N := 6) (C := RX4) (T := TX4) (n := 1) (st := []) (vl_w (by decide) hw) rfl rfl [.int (iI (fnd (V 4 (P 0) 3) (fun k => V 5 (P 0) k = state)))] (kX4_canForget l G P V (P 0) (fnd (V 4 (P 0) 3) (fun k => V 5 (P 0) k = state)) hw hB (by omega) (by omega) (by omega) (by omega)) gX5_frees_X4_canForget rfl ⟨rfl, rfl⟩ (by decide +kernel) ⟨Nat.le_of_ble_eq_true rfl, Nat.le_of_ble_eq_true rfl⟩ rfl rfl (Nat.le_of_ble_eq_true rfl) rfl dX5_frees_24 (z_dtI ?_)
    refine z_ifeq_b E 41 dX5_frees_27 rfl (fun c_4 => ?_) (fun c_4 => ?_)
    · skip
      refine z_ldc E (-1000002) f2 rfl dX5_frees_41 ?_
      exact z_iret E dX5_frees_43 (⟨by first | (rw [if_neg (by omega), if_pos (by assumption)]; done) | (rw [if_neg (by omega), if_neg (by assumption)]; done), rfl, rfl⟩)
    · skip
      refine z_aload_n E dX5_frees_30 0 rfl rfl ?_
      refine z_get E (ci := 5) (N := 4) (C := RX5) (T := TX5) (rfl : vl 10 0 = true) rfl rfl iX5 0 (by decide) rfl f0 rfl dX5_frees_31 ?_
      refine z_iload_n E dX5_frees_34 2 rfl rfl ?_
      refine z_callV E (ci := 4) (N := 6) (C := RX4) (T := TX4) (n := 1) (st := []) (vl_w (by decide) hw) rfl rfl [.int (iI (fnd (V 4 (P 0) 3) (fun k => V 5 (P 0) k = state)))] (kX4_blocksOfItsOwn l G P V (P 0) (fnd (V 4 (P 0) 3) (fun k => V 5 (P 0) k = state)) hw hB (by omega) (by omega) hL (by omega) (by omega)) gX5_frees_X4_blocksOfItsOwn rfl ⟨rfl, rfl⟩ (by decide +kernel) ⟨Nat.le_of_ble_eq_true rfl, Nat.le_of_ble_eq_true rfl⟩ rfl rfl (Nat.le_of_ble_eq_true rfl) rfl dX5_frees_35 (z_dtI ?_)
      have h_5a := sm_b2i_bd (n := 6) (p := fun q => V 3 (P 0) (V 7 (P 0) ((fnd (V 4 (P 0) 3) (fun k => V 5 (P 0) k = state)) * 6 + q)) = sm 6 (fun p => b2i (V 7 (P 0) ((fnd (V 4 (P 0) 3) (fun k => V 5 (P 0) k = state)) * 6 + p) = V 7 (P 0) ((fnd (V 4 (P 0) 3) (fun k => V 5 (P 0) k = state)) * 6 + q))) ∧ ∀ e, 0 ≤ e → e < q → ¬ V 7 (P 0) ((fnd (V 4 (P 0) 3) (fun k => V 5 (P 0) k = state)) * 6 + e) = V 7 (P 0) ((fnd (V 4 (P 0) 3) (fun k => V 5 (P 0) k = state)) * 6 + q)) (by omega)
      refine z_goto E 43 dX5_frees_38 rfl ?_
      exact z_iret E dX5_frees_43 (⟨by first | (rw [if_neg (by omega), if_pos (by assumption)]; done) | (rw [if_neg (by omega), if_neg (by assumption)]; done), rfl, rfl⟩)
  · skip
    refine z_ldc E (-1000001) f3 rfl dX5_frees_16 ?_
    exact z_iret E dX5_frees_18 (⟨by rw [if_pos (by omega)], rfl, rfl⟩)

set_option maxHeartbeats 4000000 in
set_option maxRecDepth 100000 in
theorem kX5_heaviest (l : Launch) (G : Gl) (P : Nat → Nat) (V : Vt) (what : Int) (hw : P 0 < 6) (hB : BV V) (hn0 : 0 ≤ V 4 (P 0) 3) (hn1 : V 4 (P 0) 3 ≤ 16) (hL : ∀ j, 0 ≤ V 7 (P 0) j ∧ V 7 (P 0) j < 40) (a1 : inR what) : Met l yX5_heaviest wsX5_heaviest ({ frames := 4, cells := 0, slots := 0, locals := 93 }) (va_Pc [.ref (ad G 10 0), .int (iI what)] (Sg G P V)) (Qk G mkI (dt (if ¬ (0 ≤ what ∧ what < 2) then -1000001 else if what = 0 then fO (hvR (fgF V (P 0)) (V 5 (P 0)) (V 4 (P 0) 3).toNat).1 else fO (hvR (fgF V (P 0)) (V 5 (P 0)) (V 4 (P 0) 3).toNat).2) P V)) 0 0 (mem G) := by
  refine z_met (cc := cX5_heaviest) (nL := 6) (ret := (some .int)) (own := RX5) (by decide +kernel) rfl rfl (Nat.le_of_ble_eq_true rfl) (zz_cat rfl) (L := [some (.ref (ad G 10 0)), some (.int (iI what)), none, none, none, none]) rfl ?_
  intro X E
  have iX3 : ∀ x ∈ wsX30, x ∈ wsX5_heaviest := by decide +kernel
  have iX4 : ∀ x ∈ wsX40, x ∈ wsX5_heaviest := by decide +kernel
  have iX5 : ∀ x ∈ wsX50, x ∈ wsX5_heaviest := by decide +kernel
  have f0 : Cond.fieldLink RX5 10 "SharedStates" "world" "LSharedStates$World;" ∈ wsX5_heaviest := by decide +kernel
  have f1 : Cond.fieldLink RX5 72 "SharedStates$World" "states" "LSharedStates$States;" ∈ wsX5_heaviest := by decide +kernel
  have f2 : Cond.fieldLink RX5 167 "SharedStates$States" "size" "I" ∈ wsX5_heaviest := by decide +kernel
  have f3 : Cond.constant RX5 85 (-1000001) ∈ wsX5_heaviest := by decide +kernel
  refine z_iload_n E dX5_heaviest_0 1 rfl rfl ?_
  refine z_iconst E dX5_heaviest_1 ?_
  refine z_callS E (n := 2) (st := []) [.int (iI what), .int (iI 2)] (kX5_isIndex l G P V what 2 (by omega) (by omega)) gX5_heaviest_X5_isIndex rfl ⟨rfl, rfl⟩ (by decide +kernel) ⟨Nat.le_of_ble_eq_true rfl, Nat.le_of_ble_eq_true rfl⟩ rfl rfl (Nat.le_of_ble_eq_true rfl) rfl dX5_heaviest_2 (z_dtI ?_)
  refine z_ifne_b E 11 dX5_heaviest_5 rfl (fun c_2 => ?_) (fun c_2 => ?_)
  · skip
    refine z_iconst E dX5_heaviest_11 ?_
    refine z_istore_n E dX5_heaviest_12 2 rfl (L' := [some (.ref (ad G 10 0)), some (.int (iI what)), some (.int (iI (-1))), none, none, none]) (Nat.le_of_ble_eq_true rfl) rfl ?_
    refine z_iconst E dX5_heaviest_13 ?_
    refine z_istore_n E dX5_heaviest_14 3 rfl (L' := [some (.ref (ad G 10 0)), some (.int (iI what)), some (.int (iI (-1))), some (.int (iI (-1))), none, none]) (Nat.le_of_ble_eq_true rfl) rfl ?_
    refine z_iconst E dX5_heaviest_15 ?_
    refine z_istore E dX5_heaviest_16 (L' := [some (.ref (ad G 10 0)), some (.int (iI what)), some (.int (iI (-1))), some (.int (iI (-1))), some (.int (iI 0)), none]) (Nat.le_of_ble_eq_true rfl) rfl ?_
    have lp_18_3 : ∀ (fuel : Nat) (bst : Int) (mst : Int) (k : Int), (0 ≤ k) → (k ≤ V 4 (P 0) 3) → (bst = (hvR (fgF V (P 0)) (V 5 (P 0)) (k).toNat).1) → (mst = (hvR (fgF V (P 0)) (V 5 (P 0)) (k).toNat).2) → (inR bst) → (-1 ≤ mst ∧ mst ≤ 6) → (V 4 (P 0) 3 - k : Int).toNat < fuel → Kz X G P V [some (.ref (ad G 10 0)), some (.int (iI what)), some (.int (iI bst)), some (.int (iI mst)), some (.int (iI k)), none] 18 [] := by
      intro fuel
      induction fuel with
      | zero => intro bst mst k hk0 hk1 hb hm hbr hmr hf_18; exact absurd hf_18 (Nat.not_lt_zero _)
      | succ fuel ih_18 =>
        intro bst mst k hk0 hk1 hb hm hbr hmr hf_18
        refine z_iload E dX5_heaviest_18 rfl ?_
        refine z_aload_n E dX5_heaviest_20 0 rfl rfl ?_
        refine z_get E (ci := 5) (N := 4) (C := RX5) (T := TX5) (rfl : vl 10 0 = true) rfl rfl iX5 0 (by decide) rfl f0 rfl dX5_heaviest_21 ?_
        refine z_get E (ci := 4) (N := 6) (C := RX4) (T := TX4) (vl_w (by decide) hw) rfl rfl iX4 1 (by decide) rfl f1 rfl dX5_heaviest_24 ?_
        have hr_4 := hB.g 4 (P 0) 3 rfl
        refine z_get E (ci := 3) (N := 5) (C := RX3) (T := TX3) (vl_w (by decide) hw) rfl rfl iX3 3 (by decide) rfl f2 rfl dX5_heaviest_27 ?_
        refine z_icmp_ge E 88 dX5_heaviest_30 rfl (by omega) (by omega) (fun c_5 => ?_) (fun c_5 => ?_)
        · skip
          refine z_iload_n E dX5_heaviest_88 1 rfl rfl ?_
          refine z_if_ne E 96 dX5_heaviest_89 rfl (by omega) (fun c_6 => ?_) (fun c_6 => ?_)
          · skip
            refine z_iload_n E dX5_heaviest_96 3 rfl rfl ?_
            refine z_callS E (n := 1) (st := []) [.int (iI mst)] (kX5_foundOr l G P V mst (by omega)) gX5_heaviest_X5_foundOr rfl ⟨rfl, rfl⟩ (by decide +kernel) ⟨Nat.le_of_ble_eq_true rfl, Nat.le_of_ble_eq_true rfl⟩ rfl rfl (Nat.le_of_ble_eq_true rfl) rfl dX5_heaviest_97 (z_dtI ?_)
            exact z_iret E dX5_heaviest_100 (⟨by
                 have e : (V 4 (P 0) 3).toNat = k.toNat := by omega
                 rw [e]; first | (rw [if_neg (by omega), if_pos (by omega), ← hb]; done) | (rw [if_neg (by omega), if_neg (by omega), ← hm]; done), rfl, rfl⟩)
          · skip
            refine z_iload_n E dX5_heaviest_92 2 rfl rfl ?_
            refine z_goto E 97 dX5_heaviest_93 rfl ?_
            refine z_callS E (n := 1) (st := []) [.int (iI bst)] (kX5_foundOr l G P V bst (by omega)) gX5_heaviest_X5_foundOr rfl ⟨rfl, rfl⟩ (by decide +kernel) ⟨Nat.le_of_ble_eq_true rfl, Nat.le_of_ble_eq_true rfl⟩ rfl rfl (Nat.le_of_ble_eq_true rfl) rfl dX5_heaviest_97 (z_dtI ?_)
            exact z_iret E dX5_heaviest_100 (⟨by
                 have e : (V 4 (P 0) 3).toNat = k.toNat := by omega
                 rw [e]; first | (rw [if_neg (by omega), if_pos (by omega), ← hb]; done) | (rw [if_neg (by omega), if_neg (by omega), ← hm]; done), rfl, rfl⟩)
        · skip
          refine z_aload_n E dX5_heaviest_33 0 rfl rfl ?_
          refine z_get E (ci := 5) (N := 4) (C := RX5) (T := TX5) (rfl : vl 10 0 = true) rfl rfl iX5 0 (by decide) rfl f0 rfl dX5_heaviest_34 ?_
          refine z_iload E dX5_heaviest_37 rfl ?_
          refine z_callV E (ci := 4) (N := 6) (C := RX4) (T := TX4) (n := 1) (st := []) (vl_w (by decide) hw) rfl rfl [.int (iI k)] (kX4_canForget l G P V (P 0) k hw hB (by omega) (by omega) (by omega) (by omega)) gX5_heaviest_X4_canForget rfl ⟨rfl, rfl⟩ (by decide +kernel) ⟨Nat.le_of_ble_eq_true rfl, Nat.le_of_ble_eq_true rfl⟩ rfl rfl (Nat.le_of_ble_eq_true rfl) rfl dX5_heaviest_39 (z_dtI ?_)
          refine z_ifeq_b E 57 dX5_heaviest_42 rfl (fun c_10 => ?_) (fun c_10 => ?_)
          · skip
            refine z_iconst E dX5_heaviest_57 ?_
            refine z_istore E dX5_heaviest_58 (L' := [some (.ref (ad G 10 0)), some (.int (iI what)), some (.int (iI bst)), some (.int (iI mst)), some (.int (iI k)), some (.int (iI (-1)))]) (Nat.le_of_ble_eq_true rfl) rfl ?_
            refine z_iload E dX5_heaviest_60 rfl ?_
            refine z_iload_n E dX5_heaviest_62 3 rfl rfl ?_
            refine z_icmp_le E 82 dX5_heaviest_63 rfl (by omega) (by omega) (fun c_11 => ?_) (fun c_11 => ?_)
            · skip
              refine z_iinc E k dX5_heaviest_82 (L' := [some (.ref (ad G 10 0)), some (.int (iI what)), some (.int (iI bst)), some (.int (iI mst)), some (.int (iI (k + 1))), some (.int (iI (-1)))]) (Nat.le_of_ble_eq_true rfl) rfl rfl ?_
              refine z_goto E 18 dX5_heaviest_85 rfl ?_
              refine Kz.drop 5 (L' := [some (.ref (ad G 10 0)), some (.int (iI what)), some (.int (iI bst)), some (.int (iI mst)), some (.int (iI (k + 1))), none]) rfl ?_
              exact ih_18 bst mst (k + 1) (by omega) (by omega) (by first | (exfalso; omega) | exact (hvS_t hb hm hk0 (fgF_t (by assumption)).symm (by omega)).1 | exact (hvS_t hb hm hk0 (fgF_f (by assumption)).symm (by omega)).1 | exact (hvS_f hb hm hk0 (fgF_t (by assumption)).symm (by omega)).1 | exact (hvS_f hb hm hk0 (fgF_f (by assumption)).symm (by omega)).1) (by first | (exfalso; omega) | exact (hvS_t hb hm hk0 (fgF_t (by assumption)).symm (by omega)).2 | exact (hvS_t hb hm hk0 (fgF_f (by assumption)).symm (by omega)).2 | exact (hvS_f hb hm hk0 (fgF_t (by assumption)).symm (by omega)).2 | exact (hvS_f hb hm hk0 (fgF_f (by assumption)).symm (by omega)).2) (by omega) (by omega) (by omega)
            · skip
              refine z_iload E dX5_heaviest_66 rfl ?_
              refine z_istore_n E dX5_heaviest_68 3 rfl (L' := [some (.ref (ad G 10 0)), some (.int (iI what)), some (.int (iI bst)), some (.int (iI (-1))), some (.int (iI k)), some (.int (iI (-1)))]) (Nat.le_of_ble_eq_true rfl) rfl ?_
              refine z_aload_n E dX5_heaviest_69 0 rfl rfl ?_
              refine z_get E (ci := 5) (N := 4) (C := RX5) (T := TX5) (rfl : vl 10 0 = true) rfl rfl iX5 0 (by decide) rfl f0 rfl dX5_heaviest_70 ?_
              refine z_get E (ci := 4) (N := 6) (C := RX4) (T := TX4) (vl_w (by decide) hw) rfl rfl iX4 1 (by decide) rfl f1 rfl dX5_heaviest_73 ?_
              refine z_iload E dX5_heaviest_76 rfl ?_
              refine z_callV E (ci := 3) (N := 5) (C := RX3) (T := TX3) (n := 1) (st := []) (vl_w (by decide) hw) rfl rfl [.int (iI k)] (kX3_numberOf l G P V (P 0) k hw hB (by omega) (by omega) (by omega)) gX5_heaviest_X3_numberOf rfl ⟨rfl, rfl⟩ (by decide +kernel) ⟨Nat.le_of_ble_eq_true rfl, Nat.le_of_ble_eq_true rfl⟩ rfl rfl (Nat.le_of_ble_eq_true rfl) rfl dX5_heaviest_78 (z_dtI ?_)
              have h_12a := nO_R hB (P 0) (V 4 (P 0) 3) k
              rw [nO_t (by omega) (by omega)]
              have hr_z := hB.g 5 (P 0) k rfl
              refine z_istore_n E dX5_heaviest_81 2 rfl (L' := [some (.ref (ad G 10 0)), some (.int (iI what)), some (.int (iI (V 5 (P 0) k))), some (.int (iI (-1))), some (.int (iI k)), some (.int (iI (-1)))]) (Nat.le_of_ble_eq_true rfl) rfl ?_
              refine z_iinc E k dX5_heaviest_82 (L' := [some (.ref (ad G 10 0)), some (.int (iI what)), some (.int (iI (V 5 (P 0) k))), some (.int (iI (-1))), some (.int (iI (k + 1))), some (.int (iI (-1)))]) (Nat.le_of_ble_eq_true rfl) rfl rfl ?_
              refine z_goto E 18 dX5_heaviest_85 rfl ?_
              refine Kz.drop 5 (L' := [some (.ref (ad G 10 0)), some (.int (iI what)), some (.int (iI (V 5 (P 0) k))), some (.int (iI (-1))), some (.int (iI (k + 1))), none]) rfl ?_
              exact ih_18 (V 5 (P 0) k) (-1) (k + 1) (by omega) (by omega) (by first | (exfalso; omega) | exact (hvS_t hb hm hk0 (fgF_t (by assumption)).symm (by omega)).1 | exact (hvS_t hb hm hk0 (fgF_f (by assumption)).symm (by omega)).1 | exact (hvS_f hb hm hk0 (fgF_t (by assumption)).symm (by omega)).1 | exact (hvS_f hb hm hk0 (fgF_f (by assumption)).symm (by omega)).1) (by first | (exfalso; omega) | exact (hvS_t hb hm hk0 (fgF_t (by assumption)).symm (by omega)).2 | exact (hvS_t hb hm hk0 (fgF_f (by assumption)).symm (by omega)).2 | exact (hvS_f hb hm hk0 (fgF_t (by assumption)).symm (by omega)).2 | exact (hvS_f hb hm hk0 (fgF_f (by assumption)).symm (by omega)).2) (by omega) (by omega) (by omega)
          · skip
            refine z_aload_n E dX5_heaviest_45 0 rfl rfl ?_
            refine z_get E (ci := 5) (N := 4) (C := RX5) (T := TX5) (rfl : vl 10 0 = true) rfl rfl iX5 0 (by decide) rfl f0 rfl dX5_heaviest_46 ?_
            refine z_iload E dX5_heaviest_49 rfl ?_
            refine z_callV E (ci := 4) (N := 6) (C := RX4) (T := TX4) (n := 1) (st := []) (vl_w (by decide) hw) rfl rfl [.int (iI k)] (kX4_blocksOfItsOwn l G P V (P 0) k hw hB (by omega) (by omega) hL (by omega) (by omega)) gX5_heaviest_X4_blocksOfItsOwn rfl ⟨rfl, rfl⟩ (by decide +kernel) ⟨Nat.le_of_ble_eq_true rfl, Nat.le_of_ble_eq_true rfl⟩ rfl rfl (Nat.le_of_ble_eq_true rfl) rfl dX5_heaviest_51 (z_dtI ?_)
            have h_13a := sm_b2i_bd (n := 6) (p := fun q => V 3 (P 0) (V 7 (P 0) (k * 6 + q)) = sm 6 (fun p => b2i (V 7 (P 0) (k * 6 + p) = V 7 (P 0) (k * 6 + q))) ∧ ∀ e, 0 ≤ e → e < q → ¬ V 7 (P 0) (k * 6 + e) = V 7 (P 0) (k * 6 + q)) (by omega)
            refine z_goto E 58 dX5_heaviest_54 rfl ?_
            refine z_istore E dX5_heaviest_58 (L' := [some (.ref (ad G 10 0)), some (.int (iI what)), some (.int (iI bst)), some (.int (iI mst)), some (.int (iI k)), some (.int (iI (sm 6 (fun q => b2i (V 3 (P 0) (V 7 (P 0) (k * 6 + q)) = sm 6 (fun p => b2i (V 7 (P 0) (k * 6 + p) = V 7 (P 0) (k * 6 + q))) ∧ ∀ e, 0 ≤ e → e < q → ¬ V 7 (P 0) (k * 6 + e) = V 7 (P 0) (k * 6 + q))))))]) (Nat.le_of_ble_eq_true rfl) rfl ?_
            refine z_iload E dX5_heaviest_60 rfl ?_
            refine z_iload_n E dX5_heaviest_62 3 rfl rfl ?_
            refine z_icmp_le E 82 dX5_heaviest_63 rfl (by omega) (by omega) (fun c_14 => ?_) (fun c_14 => ?_)
            · skip
              refine z_iinc E k dX5_heaviest_82 (L' := [some (.ref (ad G 10 0)), some (.int (iI what)), some (.int (iI bst)), some (.int (iI mst)), some (.int (iI (k + 1))), some (.int (iI (sm 6 (fun q => b2i (V 3 (P 0) (V 7 (P 0) (k * 6 + q)) = sm 6 (fun p => b2i (V 7 (P 0) (k * 6 + p) = V 7 (P 0) (k * 6 + q))) ∧ ∀ e, 0 ≤ e → e < q → ¬ V 7 (P 0) (k * 6 + e) = V 7 (P 0) (k * 6 + q))))))]) (Nat.le_of_ble_eq_true rfl) rfl rfl ?_
              refine z_goto E 18 dX5_heaviest_85 rfl ?_
              refine Kz.drop 5 (L' := [some (.ref (ad G 10 0)), some (.int (iI what)), some (.int (iI bst)), some (.int (iI mst)), some (.int (iI (k + 1))), none]) rfl ?_
              exact ih_18 bst mst (k + 1) (by omega) (by omega) (by first | (exfalso; omega) | exact (hvS_t hb hm hk0 (fgF_t (by assumption)).symm (by omega)).1 | exact (hvS_t hb hm hk0 (fgF_f (by assumption)).symm (by omega)).1 | exact (hvS_f hb hm hk0 (fgF_t (by assumption)).symm (by omega)).1 | exact (hvS_f hb hm hk0 (fgF_f (by assumption)).symm (by omega)).1) (by first | (exfalso; omega) | exact (hvS_t hb hm hk0 (fgF_t (by assumption)).symm (by omega)).2 | exact (hvS_t hb hm hk0 (fgF_f (by assumption)).symm (by omega)).2 | exact (hvS_f hb hm hk0 (fgF_t (by assumption)).symm (by omega)).2 | exact (hvS_f hb hm hk0 (fgF_f (by assumption)).symm (by omega)).2) (by omega) (by omega) (by omega)
            · skip
              refine z_iload E dX5_heaviest_66 rfl ?_
              refine z_istore_n E dX5_heaviest_68 3 rfl (L' := [some (.ref (ad G 10 0)), some (.int (iI what)), some (.int (iI bst)), some (.int (iI (sm 6 (fun q => b2i (V 3 (P 0) (V 7 (P 0) (k * 6 + q)) = sm 6 (fun p => b2i (V 7 (P 0) (k * 6 + p) = V 7 (P 0) (k * 6 + q))) ∧ ∀ e, 0 ≤ e → e < q → ¬ V 7 (P 0) (k * 6 + e) = V 7 (P 0) (k * 6 + q)))))), some (.int (iI k)), some (.int (iI (sm 6 (fun q => b2i (V 3 (P 0) (V 7 (P 0) (k * 6 + q)) = sm 6 (fun p => b2i (V 7 (P 0) (k * 6 + p) = V 7 (P 0) (k * 6 + q))) ∧ ∀ e, 0 ≤ e → e < q → ¬ V 7 (P 0) (k * 6 + e) = V 7 (P 0) (k * 6 + q))))))]) (Nat.le_of_ble_eq_true rfl) rfl ?_
              refine z_aload_n E dX5_heaviest_69 0 rfl rfl ?_
              refine z_get E (ci := 5) (N := 4) (C := RX5) (T := TX5) (rfl : vl 10 0 = true) rfl rfl iX5 0 (by decide) rfl f0 rfl dX5_heaviest_70 ?_
              refine z_get E (ci := 4) (N := 6) (C := RX4) (T := TX4) (vl_w (by decide) hw) rfl rfl iX4 1 (by decide) rfl f1 rfl dX5_heaviest_73 ?_
              refine z_iload E dX5_heaviest_76 rfl ?_
              refine z_callV E (ci := 3) (N := 5) (C := RX3) (T := TX3) (n := 1) (st := []) (vl_w (by decide) hw) rfl rfl [.int (iI k)] (kX3_numberOf l G P V (P 0) k hw hB (by omega) (by omega) (by omega)) gX5_heaviest_X3_numberOf rfl ⟨rfl, rfl⟩ (by decide +kernel) ⟨Nat.le_of_ble_eq_true rfl, Nat.le_of_ble_eq_true rfl⟩ rfl rfl (Nat.le_of_ble_eq_true rfl) rfl dX5_heaviest_78 (z_dtI ?_)
              have h_15a := nO_R hB (P 0) (V 4 (P 0) 3) k
              rw [nO_t (by omega) (by omega)]
              have hr_z := hB.g 5 (P 0) k rfl
              refine z_istore_n E dX5_heaviest_81 2 rfl (L' := [some (.ref (ad G 10 0)), some (.int (iI what)), some (.int (iI (V 5 (P 0) k))), some (.int (iI (sm 6 (fun q => b2i (V 3 (P 0) (V 7 (P 0) (k * 6 + q)) = sm 6 (fun p => b2i (V 7 (P 0) (k * 6 + p) = V 7 (P 0) (k * 6 + q))) ∧ ∀ e, 0 ≤ e → e < q → ¬ V 7 (P 0) (k * 6 + e) = V 7 (P 0) (k * 6 + q)))))), some (.int (iI k)), some (.int (iI (sm 6 (fun q => b2i (V 3 (P 0) (V 7 (P 0) (k * 6 + q)) = sm 6 (fun p => b2i (V 7 (P 0) (k * 6 + p) = V 7 (P 0) (k * 6 + q))) ∧ ∀ e, 0 ≤ e → e < q → ¬ V 7 (P 0) (k * 6 + e) = V 7 (P 0) (k * 6 + q))))))]) (Nat.le_of_ble_eq_true rfl) rfl ?_
              refine z_iinc E k dX5_heaviest_82 (L' := [some (.ref (ad G 10 0)), some (.int (iI what)), some (.int (iI (V 5 (P 0) k))), some (.int (iI (sm 6 (fun q => b2i (V 3 (P 0) (V 7 (P 0) (k * 6 + q)) = sm 6 (fun p => b2i (V 7 (P 0) (k * 6 + p) = V 7 (P 0) (k * 6 + q))) ∧ ∀ e, 0 ≤ e → e < q → ¬ V 7 (P 0) (k * 6 + e) = V 7 (P 0) (k * 6 + q)))))), some (.int (iI (k + 1))), some (.int (iI (sm 6 (fun q => b2i (V 3 (P 0) (V 7 (P 0) (k * 6 + q)) = sm 6 (fun p => b2i (V 7 (P 0) (k * 6 + p) = V 7 (P 0) (k * 6 + q))) ∧ ∀ e, 0 ≤ e → e < q → ¬ V 7 (P 0) (k * 6 + e) = V 7 (P 0) (k * 6 + q))))))]) (Nat.le_of_ble_eq_true rfl) rfl rfl ?_
              refine z_goto E 18 dX5_heaviest_85 rfl ?_
              refine Kz.drop 5 (L' := [some (.ref (ad G 10 0)), some (.int (iI what)), some (.int (iI (V 5 (P 0) k))), some (.int (iI (sm 6 (fun q => b2i (V 3 (P 0) (V 7 (P 0) (k * 6 + q)) = sm 6 (fun p => b2i (V 7 (P 0) (k * 6 + p) = V 7 (P 0) (k * 6 + q))) ∧ ∀ e, 0 ≤ e → e < q → ¬ V 7 (P 0) (k * 6 + e) = V 7 (P 0) (k * 6 + q)))))), some (.int (iI (k + 1))), none]) rfl ?_
              exact ih_18 (V 5 (P 0) k) (sm 6 (fun q => b2i (V 3 (P 0) (V 7 (P 0) (k * 6 + q)) = sm 6 (fun p => b2i (V 7 (P 0) (k * 6 + p) = V 7 (P 0) (k * 6 + q))) ∧ ∀ e, 0 ≤ e → e < q → ¬ V 7 (P 0) (k * 6 + e) = V 7 (P 0) (k * 6 + q)))) (k + 1) (by omega) (by omega) (by first | (exfalso; omega) | exact (hvS_t hb hm hk0 (fgF_t (by assumption)).symm (by omega)).1 | exact (hvS_t hb hm hk0 (fgF_f (by assumption)).symm (by omega)).1 | exact (hvS_f hb hm hk0 (fgF_t (by assumption)).symm (by omega)).1 | exact (hvS_f hb hm hk0 (fgF_f (by assumption)).symm (by omega)).1) (by first | (exfalso; omega) | exact (hvS_t hb hm hk0 (fgF_t (by assumption)).symm (by omega)).2 | exact (hvS_t hb hm hk0 (fgF_f (by assumption)).symm (by omega)).2 | exact (hvS_f hb hm hk0 (fgF_t (by assumption)).symm (by omega)).2 | exact (hvS_f hb hm hk0 (fgF_f (by assumption)).symm (by omega)).2) (by omega) (by omega) (by omega)
    exact lp_18_3 ((V 4 (P 0) 3 - 0 : Int).toNat + 1) (-1) (-1) 0 (by omega) (by omega) rfl rfl (by omega) (by omega) (Nat.lt_succ_self _)
  · skip
    refine z_ldc E (-1000001) f3 rfl dX5_heaviest_8 ?_
    exact z_iret E dX5_heaviest_10 (⟨by rw [if_pos (by omega)], rfl, rfl⟩)

set_option maxHeartbeats 4000000 in
set_option maxRecDepth 100000 in
theorem kX5_count (l : Launch) (G : Gl) (P : Nat → Nat) (V : Vt) (what : Int) (hw : P 0 < 6) (hB : BV V) (hn0 : 0 ≤ V 4 (P 0) 3) (hn1 : V 4 (P 0) 3 ≤ 16) (hL : ∀ j, 0 ≤ V 7 (P 0) j ∧ V 7 (P 0) j < 40) (a1 : inR what) : Met l yX5_count wsX5_count ({ frames := 3, cells := 0, slots := 0, locals := 69 }) (va_Pc [.ref (ad G 10 0), .int (iI what)] (Sg G P V)) (Qk G mkI (dt (if what = 0 then V 4 (P 0) 3 else if what = 1 then sm 4 (fun b => b2i (¬ V 8 (P 0) b = -1)) else if what = 2 then sm 40 (fun b => b2i (0 < V 3 (P 0) b)) else if what = 3 then V 4 (P 0) 3 * 6 else if what = 4 then sm 40 (fun b => b2i (0 < V 3 (P 0) b ∧ fnd 40 (fun a => V 3 (P 0) a ≠ 0 ∧ eq8 (V 2 (P 0)) (V 2 (P 0)) (a * 8) (b * 8)) < b)) else if what = 5 then V 4 (P 0) 4 else if what = 6 then V 1 (P 0) 2 else if what = 7 then V 1 (P 0) 3 else if what = 8 then V 0 (P 0) 5 else if what = 9 then V 11 0 2 else if what = 10 then V 13 0 2 else if what = 20 then V 0 (P 0) 4 else -1000001) P V)) 0 0 (mem G) := by
  refine z_met (cc := cX5_count) (nL := 2) (ret := (some .int)) (own := RX5) (by decide +kernel) rfl rfl (Nat.le_of_ble_eq_true rfl) (zz_cat rfl) (L := [some (.ref (ad G 10 0)), some (.int (iI what))]) rfl ?_
  intro X E
  have iX0 : ∀ x ∈ wsX00, x ∈ wsX5_count := by decide +kernel
  have iX1 : ∀ x ∈ wsX10, x ∈ wsX5_count := by decide +kernel
  have iX2 : ∀ x ∈ wsX20, x ∈ wsX5_count := by decide +kernel
  have iX3 : ∀ x ∈ wsX30, x ∈ wsX5_count := by decide +kernel
  have iX4 : ∀ x ∈ wsX40, x ∈ wsX5_count := by decide +kernel
  have iX5 : ∀ x ∈ wsX50, x ∈ wsX5_count := by decide +kernel
  have f0 : Cond.fieldLink RX5 10 "SharedStates" "world" "LSharedStates$World;" ∈ wsX5_count := by decide +kernel
  have f1 : Cond.fieldLink RX5 72 "SharedStates$World" "states" "LSharedStates$States;" ∈ wsX5_count := by decide +kernel
  have f2 : Cond.fieldLink RX5 167 "SharedStates$States" "size" "I" ∈ wsX5_count := by decide +kernel
  have f3 : Cond.fieldLink RX5 126 "SharedStates$World" "blocks" "LSharedStates$Blocks;" ∈ wsX5_count := by decide +kernel
  have f4 : Cond.fieldLink RX5 194 "SharedStates$States" "made" "I" ∈ wsX5_count := by decide +kernel
  have f5 : Cond.fieldLink RX5 197 "SharedStates$Blocks" "made" "I" ∈ wsX5_count := by decide +kernel
  have f6 : Cond.fieldLink RX5 198 "SharedStates$Blocks" "taken" "I" ∈ wsX5_count := by decide +kernel
  have f7 : Cond.fieldLink RX5 201 "SharedStates$World" "conflictsSoFar" "I" ∈ wsX5_count := by decide +kernel
  have f8 : Cond.fieldLink RX5 22 "SharedStates" "history" "LSharedStates$History;" ∈ wsX5_count := by decide +kernel
  have f9 : Cond.fieldLink RX5 204 "SharedStates$History" "size" "I" ∈ wsX5_count := by decide +kernel
  have f10 : Cond.fieldLink RX5 29 "SharedStates" "orders" "LSharedStates$Orders;" ∈ wsX5_count := by decide +kernel
  have f11 : Cond.fieldLink RX5 205 "SharedStates$Orders" "length" "I" ∈ wsX5_count := by decide +kernel
  have f12 : Cond.constant RX5 85 (-1000001) ∈ wsX5_count := by decide +kernel
  have f13 : Cond.fieldLink RX5 208 "SharedStates$World" "sharing" "I" ∈ wsX5_count := by decide +kernel
  refine z_iload_n E dX5_count_0 1 rfl rfl ?_
  by_cases q_1_0 : what = 0
  · skip
    refine z_tsI E 0 100 q_1_0 (by omega) dX5_count_1 (by decide) (by decide) rfl rfl ?_
    refine z_aload_n E dX5_count_100 0 rfl rfl ?_
    refine z_get E (ci := 5) (N := 4) (C := RX5) (T := TX5) (rfl : vl 10 0 = true) rfl rfl iX5 0 (by decide) rfl f0 rfl dX5_count_101 ?_
    refine z_get E (ci := 4) (N := 6) (C := RX4) (T := TX4) (vl_w (by decide) hw) rfl rfl iX4 1 (by decide) rfl f1 rfl dX5_count_104 ?_
    have hr_2 := hB.g 4 (P 0) 3 rfl
    refine z_get E (ci := 3) (N := 5) (C := RX3) (T := TX3) (vl_w (by decide) hw) rfl rfl iX3 3 (by decide) rfl f2 rfl dX5_count_107 ?_
    exact z_iret E dX5_count_110 (⟨by rw [if_pos (by omega)], rfl, rfl⟩)
  by_cases q_1_1 : what = 1
  · skip
    refine z_tsI E 1 111 q_1_1 (by omega) dX5_count_1 (by decide) (by decide) rfl rfl ?_
    refine z_aload_n E dX5_count_111 0 rfl rfl ?_
    refine z_get E (ci := 5) (N := 4) (C := RX5) (T := TX5) (rfl : vl 10 0 = true) rfl rfl iX5 0 (by decide) rfl f0 rfl dX5_count_112 ?_
    refine z_callV E (ci := 4) (N := 6) (C := RX4) (T := TX4) (n := 0) (st := []) (vl_w (by decide) hw) rfl rfl [] (kX4_branchesThere l G P V (P 0)  hw hB) gX5_count_X4_branchesThere rfl ⟨rfl, rfl⟩ (by decide +kernel) ⟨Nat.le_of_ble_eq_true rfl, Nat.le_of_ble_eq_true rfl⟩ rfl rfl (Nat.le_of_ble_eq_true rfl) rfl dX5_count_115 (z_dtI ?_)
    have h_3a := sm_b2i_bd (n := 4) (p := fun b => ¬ V 8 (P 0) b = -1) (by omega)
    exact z_iret E dX5_count_118 (⟨by rw [if_neg (by omega), if_pos (by omega)], rfl, rfl⟩)
  by_cases q_1_2 : what = 2
  · skip
    refine z_tsI E 2 119 q_1_2 (by omega) dX5_count_1 (by decide) (by decide) rfl rfl ?_
    refine z_aload_n E dX5_count_119 0 rfl rfl ?_
    refine z_get E (ci := 5) (N := 4) (C := RX5) (T := TX5) (rfl : vl 10 0 = true) rfl rfl iX5 0 (by decide) rfl f0 rfl dX5_count_120 ?_
    refine z_get E (ci := 4) (N := 6) (C := RX4) (T := TX4) (vl_w (by decide) hw) rfl rfl iX4 0 (by decide) rfl f3 rfl dX5_count_123 ?_
    refine z_callV E (ci := 0) (N := 4) (C := RX0) (T := TX0) (n := 0) (st := []) (vl_w (by decide) hw) rfl rfl [] (kX0_there l G P V (P 0)  hw hB) gX5_count_X0_there rfl ⟨rfl, rfl⟩ (by decide +kernel) ⟨Nat.le_of_ble_eq_true rfl, Nat.le_of_ble_eq_true rfl⟩ rfl rfl (Nat.le_of_ble_eq_true rfl) rfl dX5_count_126 (z_dtI ?_)
    have h_4a := sm_b2i_bd (n := 40) (p := fun b => 0 < V 3 (P 0) b) (by omega)
    exact z_iret E dX5_count_129 (⟨by rw [if_neg (by omega), if_neg (by omega), if_pos (by omega)], rfl, rfl⟩)
  by_cases q_1_3 : what = 3
  · skip
    refine z_tsI E 3 130 q_1_3 (by omega) dX5_count_1 (by decide) (by decide) rfl rfl ?_
    refine z_aload_n E dX5_count_130 0 rfl rfl ?_
    refine z_get E (ci := 5) (N := 4) (C := RX5) (T := TX5) (rfl : vl 10 0 = true) rfl rfl iX5 0 (by decide) rfl f0 rfl dX5_count_131 ?_
    refine z_get E (ci := 4) (N := 6) (C := RX4) (T := TX4) (vl_w (by decide) hw) rfl rfl iX4 1 (by decide) rfl f1 rfl dX5_count_134 ?_
    have hr_5 := hB.g 4 (P 0) 3 rfl
    refine z_get E (ci := 3) (N := 5) (C := RX3) (T := TX3) (vl_w (by decide) hw) rfl rfl iX3 3 (by decide) rfl f2 rfl dX5_count_137 ?_
    refine z_bipush E dX5_count_140 rfl ?_
    refine z_imul E dX5_count_142 ?_
    exact z_iret E dX5_count_143 (⟨by rw [if_neg (by omega), if_neg (by omega), if_neg (by omega), if_pos (by omega)], rfl, rfl⟩)
  by_cases q_1_4 : what = 4
  · skip
    refine z_tsI E 4 144 q_1_4 (by omega) dX5_count_1 (by decide) (by decide) rfl rfl ?_
    refine z_aload_n E dX5_count_144 0 rfl rfl ?_
    refine z_get E (ci := 5) (N := 4) (C := RX5) (T := TX5) (rfl : vl 10 0 = true) rfl rfl iX5 0 (by decide) rfl f0 rfl dX5_count_145 ?_
    refine z_get E (ci := 4) (N := 6) (C := RX4) (T := TX4) (vl_w (by decide) hw) rfl rfl iX4 0 (by decide) rfl f3 rfl dX5_count_148 ?_
    refine z_callV E (ci := 0) (N := 4) (C := RX0) (T := TX0) (n := 0) (st := []) (vl_w (by decide) hw) rfl rfl [] (kX0_doubles l G P V (P 0)  hw hB) gX5_count_X0_doubles rfl ⟨rfl, rfl⟩ (by decide +kernel) ⟨Nat.le_of_ble_eq_true rfl, Nat.le_of_ble_eq_true rfl⟩ rfl rfl (Nat.le_of_ble_eq_true rfl) rfl dX5_count_151 (z_dtI ?_)
    exact z_iret E dX5_count_154 (⟨by rw [if_neg (by omega), if_neg (by omega), if_neg (by omega), if_neg (by omega), if_pos (by omega)], rfl, rfl⟩)
  by_cases q_1_5 : what = 5
  · skip
    refine z_tsI E 5 155 q_1_5 (by omega) dX5_count_1 (by decide) (by decide) rfl rfl ?_
    refine z_aload_n E dX5_count_155 0 rfl rfl ?_
    refine z_get E (ci := 5) (N := 4) (C := RX5) (T := TX5) (rfl : vl 10 0 = true) rfl rfl iX5 0 (by decide) rfl f0 rfl dX5_count_156 ?_
    refine z_get E (ci := 4) (N := 6) (C := RX4) (T := TX4) (vl_w (by decide) hw) rfl rfl iX4 1 (by decide) rfl f1 rfl dX5_count_159 ?_
    have hr_7 := hB.g 4 (P 0) 4 rfl
    refine z_get E (ci := 3) (N := 5) (C := RX3) (T := TX3) (vl_w (by decide) hw) rfl rfl iX3 4 (by decide) rfl f4 rfl dX5_count_162 ?_
    exact z_iret E dX5_count_165 (⟨by rw [if_neg (by omega), if_neg (by omega), if_neg (by omega), if_neg (by omega), if_neg (by omega), if_pos (by omega)], rfl, rfl⟩)
  by_cases q_1_6 : what = 6
  · skip
    refine z_tsI E 6 166 q_1_6 (by omega) dX5_count_1 (by decide) (by decide) rfl rfl ?_
    refine z_aload_n E dX5_count_166 0 rfl rfl ?_
    refine z_get E (ci := 5) (N := 4) (C := RX5) (T := TX5) (rfl : vl 10 0 = true) rfl rfl iX5 0 (by decide) rfl f0 rfl dX5_count_167 ?_
    refine z_get E (ci := 4) (N := 6) (C := RX4) (T := TX4) (vl_w (by decide) hw) rfl rfl iX4 0 (by decide) rfl f3 rfl dX5_count_170 ?_
    refine z_get E (ci := 0) (N := 4) (C := RX0) (T := TX0) (vl_w (by decide) hw) rfl rfl iX0 2 (by decide) rfl f5 rfl dX5_count_173 ?_
    exact z_iret E dX5_count_176 (⟨by rw [if_neg (by omega), if_neg (by omega), if_neg (by omega), if_neg (by omega), if_neg (by omega), if_neg (by omega), if_pos (by omega)], rfl, rfl⟩)
  by_cases q_1_7 : what = 7
  · skip
    refine z_tsI E 7 177 q_1_7 (by omega) dX5_count_1 (by decide) (by decide) rfl rfl ?_
    refine z_aload_n E dX5_count_177 0 rfl rfl ?_
    refine z_get E (ci := 5) (N := 4) (C := RX5) (T := TX5) (rfl : vl 10 0 = true) rfl rfl iX5 0 (by decide) rfl f0 rfl dX5_count_178 ?_
    refine z_get E (ci := 4) (N := 6) (C := RX4) (T := TX4) (vl_w (by decide) hw) rfl rfl iX4 0 (by decide) rfl f3 rfl dX5_count_181 ?_
    refine z_get E (ci := 0) (N := 4) (C := RX0) (T := TX0) (vl_w (by decide) hw) rfl rfl iX0 3 (by decide) rfl f6 rfl dX5_count_184 ?_
    exact z_iret E dX5_count_187 (⟨by rw [if_neg (by omega), if_neg (by omega), if_neg (by omega), if_neg (by omega), if_neg (by omega), if_neg (by omega), if_neg (by omega), if_pos (by omega)], rfl, rfl⟩)
  by_cases q_1_8 : what = 8
  · skip
    refine z_tsI E 8 188 q_1_8 (by omega) dX5_count_1 (by decide) (by decide) rfl rfl ?_
    refine z_aload_n E dX5_count_188 0 rfl rfl ?_
    refine z_get E (ci := 5) (N := 4) (C := RX5) (T := TX5) (rfl : vl 10 0 = true) rfl rfl iX5 0 (by decide) rfl f0 rfl dX5_count_189 ?_
    refine z_get E (ci := 4) (N := 6) (C := RX4) (T := TX4) (vl_w (by decide) hw) rfl rfl iX4 5 (by decide) rfl f7 rfl dX5_count_192 ?_
    exact z_iret E dX5_count_195 (⟨by rw [if_neg (by omega), if_neg (by omega), if_neg (by omega), if_neg (by omega), if_neg (by omega), if_neg (by omega), if_neg (by omega), if_neg (by omega), if_pos (by omega)], rfl, rfl⟩)
  by_cases q_1_9 : what = 9
  · skip
    refine z_tsI E 9 196 q_1_9 (by omega) dX5_count_1 (by decide) (by decide) rfl rfl ?_
    refine z_aload_n E dX5_count_196 0 rfl rfl ?_
    refine z_get E (ci := 5) (N := 4) (C := RX5) (T := TX5) (rfl : vl 10 0 = true) rfl rfl iX5 2 (by decide) rfl f8 rfl dX5_count_197 ?_
    have hr_8 := hB.g 11 0 2 rfl
    refine z_get E (ci := 1) (N := 3) (C := RX1) (T := TX1) (rfl : vl 11 0 = true) rfl rfl iX1 2 (by decide) rfl f9 rfl dX5_count_200 ?_
    exact z_iret E dX5_count_203 (⟨by rw [if_neg (by omega), if_neg (by omega), if_neg (by omega), if_neg (by omega), if_neg (by omega), if_neg (by omega), if_neg (by omega), if_neg (by omega), if_neg (by omega), if_pos (by omega)], rfl, rfl⟩)
  by_cases q_1_10 : what = 10
  · skip
    refine z_tsI E 10 204 q_1_10 (by omega) dX5_count_1 (by decide) (by decide) rfl rfl ?_
    refine z_aload_n E dX5_count_204 0 rfl rfl ?_
    refine z_get E (ci := 5) (N := 4) (C := RX5) (T := TX5) (rfl : vl 10 0 = true) rfl rfl iX5 3 (by decide) rfl f10 rfl dX5_count_205 ?_
    have hr_9 := hB.g 13 0 2 rfl
    refine z_get E (ci := 2) (N := 8) (C := RX2) (T := TX2) (rfl : vl 13 0 = true) rfl rfl iX2 2 (by decide) rfl f11 rfl dX5_count_208 ?_
    exact z_iret E dX5_count_211 (⟨by rw [if_neg (by omega), if_neg (by omega), if_neg (by omega), if_neg (by omega), if_neg (by omega), if_neg (by omega), if_neg (by omega), if_neg (by omega), if_neg (by omega), if_neg (by omega), if_pos (by omega)], rfl, rfl⟩)
  by_cases q_1_11 : what = 11
  · skip
    refine z_tsI E 11 220 q_1_11 (by omega) dX5_count_1 (by decide) (by decide) rfl rfl ?_
    refine z_ldc E (-1000001) f12 rfl dX5_count_220 ?_
    exact z_iret E dX5_count_222 (⟨by rw [if_neg (by omega), if_neg (by omega), if_neg (by omega), if_neg (by omega), if_neg (by omega), if_neg (by omega), if_neg (by omega), if_neg (by omega), if_neg (by omega), if_neg (by omega), if_neg (by omega), if_neg (by omega)], rfl, rfl⟩)
  by_cases q_1_12 : what = 12
  · skip
    refine z_tsI E 12 220 q_1_12 (by omega) dX5_count_1 (by decide) (by decide) rfl rfl ?_
    refine z_ldc E (-1000001) f12 rfl dX5_count_220 ?_
    exact z_iret E dX5_count_222 (⟨by rw [if_neg (by omega), if_neg (by omega), if_neg (by omega), if_neg (by omega), if_neg (by omega), if_neg (by omega), if_neg (by omega), if_neg (by omega), if_neg (by omega), if_neg (by omega), if_neg (by omega), if_neg (by omega)], rfl, rfl⟩)
  by_cases q_1_13 : what = 13
  · skip
    refine z_tsI E 13 220 q_1_13 (by omega) dX5_count_1 (by decide) (by decide) rfl rfl ?_
    refine z_ldc E (-1000001) f12 rfl dX5_count_220 ?_
    exact z_iret E dX5_count_222 (⟨by rw [if_neg (by omega), if_neg (by omega), if_neg (by omega), if_neg (by omega), if_neg (by omega), if_neg (by omega), if_neg (by omega), if_neg (by omega), if_neg (by omega), if_neg (by omega), if_neg (by omega), if_neg (by omega)], rfl, rfl⟩)
  by_cases q_1_14 : what = 14
  · skip
    refine z_tsI E 14 220 q_1_14 (by omega) dX5_count_1 (by decide) (by decide) rfl rfl ?_
    refine z_ldc E (-1000001) f12 rfl dX5_count_220 ?_
    exact z_iret E dX5_count_222 (⟨by rw [if_neg (by omega), if_neg (by omega), if_neg (by omega), if_neg (by omega), if_neg (by omega), if_neg (by omega), if_neg (by omega), if_neg (by omega), if_neg (by omega), if_neg (by omega), if_neg (by omega), if_neg (by omega)], rfl, rfl⟩)
  by_cases q_1_15 : what = 15
  · skip
    refine z_tsI E 15 220 q_1_15 (by omega) dX5_count_1 (by decide) (by decide) rfl rfl ?_
    refine z_ldc E (-1000001) f12 rfl dX5_count_220 ?_
    exact z_iret E dX5_count_222 (⟨by rw [if_neg (by omega), if_neg (by omega), if_neg (by omega), if_neg (by omega), if_neg (by omega), if_neg (by omega), if_neg (by omega), if_neg (by omega), if_neg (by omega), if_neg (by omega), if_neg (by omega), if_neg (by omega)], rfl, rfl⟩)
  by_cases q_1_16 : what = 16
  · skip
    refine z_tsI E 16 220 q_1_16 (by omega) dX5_count_1 (by decide) (by decide) rfl rfl ?_
    refine z_ldc E (-1000001) f12 rfl dX5_count_220 ?_
    exact z_iret E dX5_count_222 (⟨by rw [if_neg (by omega), if_neg (by omega), if_neg (by omega), if_neg (by omega), if_neg (by omega), if_neg (by omega), if_neg (by omega), if_neg (by omega), if_neg (by omega), if_neg (by omega), if_neg (by omega), if_neg (by omega)], rfl, rfl⟩)
  by_cases q_1_17 : what = 17
  · skip
    refine z_tsI E 17 220 q_1_17 (by omega) dX5_count_1 (by decide) (by decide) rfl rfl ?_
    refine z_ldc E (-1000001) f12 rfl dX5_count_220 ?_
    exact z_iret E dX5_count_222 (⟨by rw [if_neg (by omega), if_neg (by omega), if_neg (by omega), if_neg (by omega), if_neg (by omega), if_neg (by omega), if_neg (by omega), if_neg (by omega), if_neg (by omega), if_neg (by omega), if_neg (by omega), if_neg (by omega)], rfl, rfl⟩)
  by_cases q_1_18 : what = 18
  · skip
    refine z_tsI E 18 220 q_1_18 (by omega) dX5_count_1 (by decide) (by decide) rfl rfl ?_
    refine z_ldc E (-1000001) f12 rfl dX5_count_220 ?_
    exact z_iret E dX5_count_222 (⟨by rw [if_neg (by omega), if_neg (by omega), if_neg (by omega), if_neg (by omega), if_neg (by omega), if_neg (by omega), if_neg (by omega), if_neg (by omega), if_neg (by omega), if_neg (by omega), if_neg (by omega), if_neg (by omega)], rfl, rfl⟩)
  by_cases q_1_19 : what = 19
  · skip
    refine z_tsI E 19 220 q_1_19 (by omega) dX5_count_1 (by decide) (by decide) rfl rfl ?_
    refine z_ldc E (-1000001) f12 rfl dX5_count_220 ?_
    exact z_iret E dX5_count_222 (⟨by rw [if_neg (by omega), if_neg (by omega), if_neg (by omega), if_neg (by omega), if_neg (by omega), if_neg (by omega), if_neg (by omega), if_neg (by omega), if_neg (by omega), if_neg (by omega), if_neg (by omega), if_neg (by omega)], rfl, rfl⟩)
  by_cases q_1_20 : what = 20
  · skip
    refine z_tsI E 20 212 q_1_20 (by omega) dX5_count_1 (by decide) (by decide) rfl rfl ?_
    refine z_aload_n E dX5_count_212 0 rfl rfl ?_
    refine z_get E (ci := 5) (N := 4) (C := RX5) (T := TX5) (rfl : vl 10 0 = true) rfl rfl iX5 0 (by decide) rfl f0 rfl dX5_count_213 ?_
    have hr_10 := hB.g0 (P 0)
    refine z_get E (ci := 4) (N := 6) (C := RX4) (T := TX4) (vl_w (by decide) hw) rfl rfl iX4 4 (by decide) rfl f13 rfl dX5_count_216 ?_
    exact z_iret E dX5_count_219 (⟨by rw [if_neg (by omega), if_neg (by omega), if_neg (by omega), if_neg (by omega), if_neg (by omega), if_neg (by omega), if_neg (by omega), if_neg (by omega), if_neg (by omega), if_neg (by omega), if_neg (by omega), if_pos (by omega)], rfl, rfl⟩)
  refine z_tsO E 220 (by omega) dX5_count_1 (by omega) rfl ?_
  refine z_ldc E (-1000001) f12 rfl dX5_count_220 ?_
  exact z_iret E dX5_count_222 (⟨by rw [if_neg (by omega), if_neg (by omega), if_neg (by omega), if_neg (by omega), if_neg (by omega), if_neg (by omega), if_neg (by omega), if_neg (by omega), if_neg (by omega), if_neg (by omega), if_neg (by omega), if_neg (by omega)], rfl, rfl⟩)

set_option maxHeartbeats 4000000 in
set_option maxRecDepth 100000 in
theorem kX5_conflicts (l : Launch) (G : Gl) (P : Nat → Nat) (V : Vt) (branch : Int) (state : Int) (hw : P 0 < 6) (hB : BV V) (hn0 : 0 ≤ V 4 (P 0) 3) (hn1 : V 4 (P 0) 3 ≤ 16) (hL : ∀ j, 0 ≤ V 7 (P 0) j ∧ V 7 (P 0) j < 40) (hcm : ∀ a b, 0 ≤ a → a < V 4 (P 0) 3 → 0 ≤ b → b < V 4 (P 0) 3 → 0 ≤ cmS (pS (V 4 (P 0) 3) (V 5 (P 0)) (V 6 (P 0))) 32 a b ∧ cmS (pS (V 4 (P 0) 3) (V 5 (P 0)) (V 6 (P 0))) 32 a b < V 4 (P 0) 3) (a1 : inR branch) (a2 : inR state) : Met l yX5_conflicts wsX5_conflicts ({ frames := 3, cells := 0, slots := 0, locals := 74 }) (va_Pc [.ref (ad G 10 0), .int (iI branch), .int (iI state)] (Sg G P V)) (Qk G mkI (fun r P' V' => P' = P ∧ BV V' ∧ ((¬ (0 ≤ (hdS (V 4 (P 0) 3) (V 5 (P 0)) (V 8 (P 0)) branch) ∧ 0 ≤ (fnd (V 4 (P 0) 3) (fun k => V 5 (P 0) k = state))) ∧ r = -1000001 ∧ V' = V) ∨ ((0 ≤ (hdS (V 4 (P 0) 3) (V 5 (P 0)) (V 8 (P 0)) branch) ∧ 0 ≤ (fnd (V 4 (P 0) 3) (fun k => V 5 (P 0) k = state))) ∧ r = sm 48 (fun c => b2i (mgX (cA (V 2 (P 0)) (V 7 (P 0)) (cmS (pS (V 4 (P 0) 3) (V 5 (P 0)) (V 6 (P 0))) 32 (hdS (V 4 (P 0) 3) (V 5 (P 0)) (V 8 (P 0)) branch) (fnd (V 4 (P 0) 3) (fun k => V 5 (P 0) k = state))) c) (cA (V 2 (P 0)) (V 7 (P 0)) (hdS (V 4 (P 0) 3) (V 5 (P 0)) (V 8 (P 0)) branch) c) (cA (V 2 (P 0)) (V 7 (P 0)) (fnd (V 4 (P 0) 3) (fun k => V 5 (P 0) k = state)) c))) ∧ V' = up V 9 (P 0) (fun c => mgC (cA (V 2 (P 0)) (V 7 (P 0)) (cmS (pS (V 4 (P 0) 3) (V 5 (P 0)) (V 6 (P 0))) 32 (hdS (V 4 (P 0) 3) (V 5 (P 0)) (V 8 (P 0)) branch) (fnd (V 4 (P 0) 3) (fun k => V 5 (P 0) k = state))) c) (cA (V 2 (P 0)) (V 7 (P 0)) (hdS (V 4 (P 0) 3) (V 5 (P 0)) (V 8 (P 0)) branch) c) (cA (V 2 (P 0)) (V 7 (P 0)) (fnd (V 4 (P 0) 3) (fun k => V 5 (P 0) k = state)) c)))))) 0 0 (mem G) := by
  refine z_met (cc := cX5_conflicts) (nL := 5) (ret := (some .int)) (own := RX5) (by decide +kernel) rfl rfl (Nat.le_of_ble_eq_true rfl) (zz_cat rfl) (L := [some (.ref (ad G 10 0)), some (.int (iI branch)), some (.int (iI state)), none, none]) rfl ?_
  intro X E
  have iX4 : ∀ x ∈ wsX40, x ∈ wsX5_conflicts := by decide +kernel
  have iX5 : ∀ x ∈ wsX50, x ∈ wsX5_conflicts := by decide +kernel
  have f0 : Cond.fieldLink RX5 10 "SharedStates" "world" "LSharedStates$World;" ∈ wsX5_conflicts := by decide +kernel
  have f1 : Cond.fieldLink RX5 72 "SharedStates$World" "states" "LSharedStates$States;" ∈ wsX5_conflicts := by decide +kernel
  have f2 : Cond.constant RX5 85 (-1000001) ∈ wsX5_conflicts := by decide +kernel
  refine z_aload_n E dX5_conflicts_0 0 rfl rfl ?_
  refine z_get E (ci := 5) (N := 4) (C := RX5) (T := TX5) (rfl : vl 10 0 = true) rfl rfl iX5 0 (by decide) rfl f0 rfl dX5_conflicts_1 ?_
  refine z_iload_n E dX5_conflicts_4 1 rfl rfl ?_
  refine z_callV E (ci := 4) (N := 6) (C := RX4) (T := TX4) (n := 1) (st := []) (vl_w (by decide) hw) rfl rfl [.int (iI branch)] (kX4_headSlot l G P V (P 0) branch hw hB (by omega) (by omega) (by omega)) gX5_conflicts_X4_headSlot rfl ⟨rfl, rfl⟩ (by decide +kernel) ⟨Nat.le_of_ble_eq_true rfl, Nat.le_of_ble_eq_true rfl⟩ rfl rfl (Nat.le_of_ble_eq_true rfl) rfl dX5_conflicts_5 (z_dtI ?_)
  have h_1a := hdS_c (n := V 4 (P 0) 3) (num := V 5 (P 0)) (hd := V 8 (P 0)) branch (by omega)
  refine z_istore_n E dX5_conflicts_8 3 rfl (L' := [some (.ref (ad G 10 0)), some (.int (iI branch)), some (.int (iI state)), some (.int (iI (hdS (V 4 (P 0) 3) (V 5 (P 0)) (V 8 (P 0)) branch))), none]) (Nat.le_of_ble_eq_true rfl) rfl ?_
  refine z_aload_n E dX5_conflicts_9 0 rfl rfl ?_
  refine z_get E (ci := 5) (N := 4) (C := RX5) (T := TX5) (rfl : vl 10 0 = true) rfl rfl iX5 0 (by decide) rfl f0 rfl dX5_conflicts_10 ?_
  refine z_get E (ci := 4) (N := 6) (C := RX4) (T := TX4) (vl_w (by decide) hw) rfl rfl iX4 1 (by decide) rfl f1 rfl dX5_conflicts_13 ?_
  refine z_iload_n E dX5_conflicts_16 2 rfl rfl ?_
  refine z_callV E (ci := 3) (N := 5) (C := RX3) (T := TX3) (n := 1) (st := []) (vl_w (by decide) hw) rfl rfl [.int (iI state)] (kX3_slotOf l G P V (P 0) state hw hB (by omega) (by omega) (by omega)) gX5_conflicts_X3_slotOf rfl ⟨rfl, rfl⟩ (by decide +kernel) ⟨Nat.le_of_ble_eq_true rfl, Nat.le_of_ble_eq_true rfl⟩ rfl rfl (Nat.le_of_ble_eq_true rfl) rfl dX5_conflicts_17 (z_dtI ?_)
  have h_2a := fnd_bd (V 4 (P 0) 3) (fun k => V 5 (P 0) k = state) (by omega)
  refine z_istore E dX5_conflicts_20 (L' := [some (.ref (ad G 10 0)), some (.int (iI branch)), some (.int (iI state)), some (.int (iI (hdS (V 4 (P 0) 3) (V 5 (P 0)) (V 8 (P 0)) branch))), some (.int (iI (fnd (V 4 (P 0) 3) (fun k => V 5 (P 0) k = state))))]) (Nat.le_of_ble_eq_true rfl) rfl ?_
  refine z_iload_n E dX5_conflicts_22 3 rfl rfl ?_
  refine z_if_lt E 31 dX5_conflicts_23 rfl (by omega) (fun c_3 => ?_) (fun c_3 => ?_)
  · skip
    refine z_ldc E (-1000001) f2 rfl dX5_conflicts_31 ?_
    exact z_iret E dX5_conflicts_33 (⟨rfl, hB, Or.inl ⟨by omega, rfl, rfl⟩⟩)
  · skip
    refine z_iload E dX5_conflicts_26 rfl ?_
    refine z_if_ge E 34 dX5_conflicts_28 rfl (by omega) (fun c_4 => ?_) (fun c_4 => ?_)
    · skip
      refine z_aload_n E dX5_conflicts_34 0 rfl rfl ?_
      refine z_get E (ci := 5) (N := 4) (C := RX5) (T := TX5) (rfl : vl 10 0 = true) rfl rfl iX5 0 (by decide) rfl f0 rfl dX5_conflicts_35 ?_
      refine z_aload_n E dX5_conflicts_38 0 rfl rfl ?_
      refine z_get E (ci := 5) (N := 4) (C := RX5) (T := TX5) (rfl : vl 10 0 = true) rfl rfl iX5 0 (by decide) rfl f0 rfl dX5_conflicts_39 ?_
      refine z_get E (ci := 4) (N := 6) (C := RX4) (T := TX4) (vl_w (by decide) hw) rfl rfl iX4 1 (by decide) rfl f1 rfl dX5_conflicts_42 ?_
      refine z_iload_n E dX5_conflicts_45 3 rfl rfl ?_
      refine z_iload E dX5_conflicts_46 rfl ?_
      refine z_callV E (ci := 3) (N := 5) (C := RX3) (T := TX3) (n := 2) (st := [.ref (ad G 0 (P 0))]) (vl_w (by decide) hw) rfl rfl [.int (iI (hdS (V 4 (P 0) 3) (V 5 (P 0)) (V 8 (P 0)) branch)), .int (iI (fnd (V 4 (P 0) 3) (fun k => V 5 (P 0) k = state)))] (kX3_commonSlot l G P V (P 0) (hdS (V 4 (P 0) 3) (V 5 (P 0)) (V 8 (P 0)) branch) (fnd (V 4 (P 0) 3) (fun k => V 5 (P 0) k = state)) hw hB (by omega) (by omega) (by omega) (by omega) (by omega) (by omega)) gX5_conflicts_X3_commonSlot rfl ⟨rfl, rfl⟩ (by decide +kernel) ⟨Nat.le_of_ble_eq_true rfl, Nat.le_of_ble_eq_true rfl⟩ rfl rfl (Nat.le_of_ble_eq_true rfl) rfl dX5_conflicts_48 (z_dtI ?_)
      have hc := hcm (hdS (V 4 (P 0) 3) (V 5 (P 0)) (V 8 (P 0)) branch) (fnd (V 4 (P 0) 3) (fun k => V 5 (P 0) k = state)) (by omega) (by omega) (by omega) (by omega)
      refine z_iload_n E dX5_conflicts_51 3 rfl rfl ?_
      refine z_iload E dX5_conflicts_52 rfl ?_
      refine z_callV E (ci := 4) (N := 6) (C := RX4) (T := TX4) (n := 3) (st := []) (vl_w (by decide) hw) rfl rfl [.int (iI (cmS (pS (V 4 (P 0) 3) (V 5 (P 0)) (V 6 (P 0))) 32 (hdS (V 4 (P 0) 3) (V 5 (P 0)) (V 8 (P 0)) branch) (fnd (V 4 (P 0) 3) (fun k => V 5 (P 0) k = state)))), .int (iI (hdS (V 4 (P 0) 3) (V 5 (P 0)) (V 8 (P 0)) branch)), .int (iI (fnd (V 4 (P 0) 3) (fun k => V 5 (P 0) k = state)))] (kX4_draftMerge l G P V (P 0) (cmS (pS (V 4 (P 0) 3) (V 5 (P 0)) (V 6 (P 0))) 32 (hdS (V 4 (P 0) 3) (V 5 (P 0)) (V 8 (P 0)) branch) (fnd (V 4 (P 0) 3) (fun k => V 5 (P 0) k = state))) (hdS (V 4 (P 0) 3) (V 5 (P 0)) (V 8 (P 0)) branch) (fnd (V 4 (P 0) 3) (fun k => V 5 (P 0) k = state)) hw hB (by omega) (by omega) hL (by omega) (by omega) (by omega) (by omega) (by omega) (by omega)) gX5_conflicts_X4_draftMerge rfl ⟨rfl, rfl⟩ (by decide +kernel) ⟨Nat.le_of_ble_eq_true rfl, Nat.le_of_ble_eq_true rfl⟩ rfl rfl (Nat.le_of_ble_eq_true rfl) rfl dX5_conflicts_54 (z_exI (fun r_6 P_6 V_6 h_6 => ?_))
      obtain ⟨hP_6, hB_6, hr_6, h_6⟩ := h_6
      rw [hP_6]
      have w_a := h_6
      have w_r := hr_6
      exact z_iret E dX5_conflicts_57 (⟨rfl, hB_6, Or.inr ⟨by omega, w_r, w_a⟩⟩)
    · skip
      refine z_ldc E (-1000001) f2 rfl dX5_conflicts_31 ?_
      exact z_iret E dX5_conflicts_33 (⟨rfl, hB, Or.inl ⟨by omega, rfl, rfl⟩⟩)
