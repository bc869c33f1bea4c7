set_option maxHeartbeats 4000000 in
set_option maxRecDepth 100000 in
theorem kX5_read (l : Launch) (G : Gl) (P : Nat → Nat) (V : Vt) (state : Int) (cell : Int) (hw : P 0 < 6) (hB : BV V) (hn0 : 0 ≤ V 4 (P 0) 3) (hn1 : V 4 (P 0) 3 ≤ 16) (hL : ∀ j, 0 ≤ V 7 (P 0) j ∧ V 7 (P 0) j < 40) (a1 : inR state) (a2 : inR cell) : Met l yX5_read wsX5_read ({ frames := 2, cells := 0, slots := 0, locals := 45 }) (va_Pc [.ref (ad G 10 0), .int (iI state), .int (iI cell)] (Sg G P V)) (Qk G mkI (dt (if 0 ≤ (fnd (V 4 (P 0) 3) (fun k => V 5 (P 0) k = state)) ∧ 0 ≤ cell ∧ cell < 48 then cA (V 2 (P 0)) (V 7 (P 0)) (fnd (V 4 (P 0) 3) (fun k => V 5 (P 0) k = state)) cell else -1000001) P V)) 0 0 (mem G) := by
  refine z_met (cc := cX5_read) (nL := 4) (ret := (some .int)) (own := RX5) (by decide +kernel) rfl rfl (Nat.le_of_ble_eq_true rfl) (L := [some (.ref (ad G 10 0)), some (.int (iI state)), some (.int (iI cell)), none]) rfl ?_
  intro X E Er0
  have iX4 : ∀ x ∈ wsX40, x ∈ wsX5_read := by decide +kernel
  have iX5 : ∀ x ∈ wsX50, x ∈ wsX5_read := by decide +kernel
  have f0 : Cond.fieldLink RX5 10 "SharedStates" "world" "LSharedStates$World;" ∈ wsX5_read := by decide +kernel
  have f1 : Cond.fieldLink RX5 72 "SharedStates$World" "states" "LSharedStates$States;" ∈ wsX5_read := by decide +kernel
  have f2 : Cond.constant RX5 85 (-1000001) ∈ wsX5_read := by decide +kernel
  refine z_aload_n E dX5_read_0 0 rfl rfl ?_
  refine z_get E (ci := 5) (N := 4) (C := RX5) (T := TX5) (rfl : vl G 10 0 = true) rfl rfl iX5 0 (by decide) rfl f0 rfl dX5_read_1 ?_
  refine z_get E (ci := 4) (N := 6) (C := RX4) (T := TX4) (vl_w (by decide) hw) rfl rfl iX4 1 (by decide) rfl f1 rfl dX5_read_4 ?_
  refine z_iload_n E dX5_read_7 1 rfl rfl ?_
  refine z_callV E (ci := 3) (N := 5) (C := RX3) (T := TX3) (n := 1) (st := []) (vl_w (by decide) hw) rfl rfl [.int (iI state)] (kX3_slotOf l G P V (P 0) state hw hB (by omega) (by omega) (by omega)) gX5_read_X3_slotOf rfl ⟨rfl, rfl⟩ (by decide +kernel) ⟨Nat.le_of_ble_eq_true rfl, Nat.le_of_ble_eq_true rfl⟩ rfl rfl (Nat.le_of_ble_eq_true rfl) rfl dX5_read_8 (z_dtI ?_)
  have h_1a := fnd_bd (V 4 (P 0) 3) (fun k => V 5 (P 0) k = state) (by omega)
  refine z_istore_n E dX5_read_11 3 rfl (L' := [some (.ref (ad G 10 0)), some (.int (iI state)), some (.int (iI cell)), some (.int (iI (fnd (V 4 (P 0) 3) (fun k => V 5 (P 0) k = state))))]) (Nat.le_of_ble_eq_true rfl) rfl ?_
  refine z_iload_n E dX5_read_12 3 rfl rfl ?_
  refine z_if_lt E 25 dX5_read_13 rfl (by omega) (fun c_2 => ?_) (fun c_2 => ?_)
  · skip
    refine z_ldc E (-1000001) f2 rfl dX5_read_25 ?_
    exact z_iret E Er0 dX5_read_27 (⟨by rw [if_neg (by omega)], rfl, rfl⟩)
  · skip
    refine z_iload_n E dX5_read_16 2 rfl rfl ?_
    refine z_bipush E dX5_read_17 rfl ?_
    refine z_callS E (n := 2) (st := []) [.int (iI cell), .int (iI 48)] (kX5_isIndex l G P V cell 48 (by omega) (by omega)) gX5_read_X5_isIndex rfl ⟨rfl, rfl⟩ (by decide +kernel) ⟨Nat.le_of_ble_eq_true rfl, Nat.le_of_ble_eq_true rfl⟩ rfl rfl (Nat.le_of_ble_eq_true rfl) rfl dX5_read_19 (z_dtI ?_)
    refine z_ifne_b E 28 dX5_read_22 rfl (fun c_4 => ?_) (fun c_4 => ?_)
    · skip
      refine z_aload_n E dX5_read_28 0 rfl rfl ?_
      refine z_get E (ci := 5) (N := 4) (C := RX5) (T := TX5) (rfl : vl G 10 0 = true) rfl rfl iX5 0 (by decide) rfl f0 rfl dX5_read_29 ?_
      refine z_iload_n E dX5_read_32 3 rfl rfl ?_
      refine z_iload_n E dX5_read_33 2 rfl rfl ?_
      refine z_callV E (ci := 4) (N := 6) (C := RX4) (T := TX4) (n := 2) (st := []) (vl_w (by decide) hw) rfl rfl [.int (iI (fnd (V 4 (P 0) 3) (fun k => V 5 (P 0) k = state))), .int (iI cell)] (kX4_cellAt l G P V (P 0) (fnd (V 4 (P 0) 3) (fun k => V 5 (P 0) k = state)) cell hw hB (by omega) (by omega) hL (by omega) (by omega) (by omega) (by omega)) gX5_read_X4_cellAt rfl ⟨rfl, rfl⟩ (by decide +kernel) ⟨Nat.le_of_ble_eq_true rfl, Nat.le_of_ble_eq_true rfl⟩ rfl rfl (Nat.le_of_ble_eq_true rfl) rfl dX5_read_34 (z_dtI ?_)
      have h_5a := cA_R hB (P 0) (fnd (V 4 (P 0) 3) (fun k => V 5 (P 0) k = state)) cell
      exact z_iret E Er0 dX5_read_37 (⟨by rw [if_pos (by omega)], rfl, rfl⟩)
    · skip
      refine z_ldc E (-1000001) f2 rfl dX5_read_25 ?_
      exact z_iret E Er0 dX5_read_27 (⟨by rw [if_neg (by omega)], rfl, rfl⟩)

set_option maxHeartbeats 4000000 in
set_option maxRecDepth 100000 in
theorem kX5_number (l : Launch) (G : Gl) (P : Nat → Nat) (V : Vt) (index : Int) (hw : P 0 < 6) (hB : BV V) (hn0 : 0 ≤ V 4 (P 0) 3) (hn1 : V 4 (P 0) 3 ≤ 16) (a1 : inR index) : Met l yX5_number wsX5_number ({ frames := 1, cells := 0, slots := 0, locals := 21 }) (va_Pc [.ref (ad G 10 0), .int (iI index)] (Sg G P V)) (Qk G mkI (dt (if index < 0 then -1000001 else fO (nO (V 4 (P 0) 3) (V 5 (P 0)) index)) P V)) 0 0 (mem G) := by
  refine z_met (cc := cX5_number) (nL := 2) (ret := (some .int)) (own := RX5) (by decide +kernel) rfl rfl (Nat.le_of_ble_eq_true rfl) (L := [some (.ref (ad G 10 0)), some (.int (iI index))]) rfl ?_
  intro X E Er0
  have iX4 : ∀ x ∈ wsX40, x ∈ wsX5_number := by decide +kernel
  have iX5 : ∀ x ∈ wsX50, x ∈ wsX5_number := by decide +kernel
  have f0 : Cond.fieldLink RX5 10 "SharedStates" "world" "LSharedStates$World;" ∈ wsX5_number := by decide +kernel
  have f1 : Cond.fieldLink RX5 72 "SharedStates$World" "states" "LSharedStates$States;" ∈ wsX5_number := by decide +kernel
  have f2 : Cond.constant RX5 85 (-1000001) ∈ wsX5_number := by decide +kernel
  refine z_iload_n E dX5_number_0 1 rfl rfl ?_
  refine z_if_ge E 7 dX5_number_1 rfl (by omega) (fun c_1 => ?_) (fun c_1 => ?_)
  · skip
    refine z_aload_n E dX5_number_7 0 rfl rfl ?_
    refine z_get E (ci := 5) (N := 4) (C := RX5) (T := TX5) (rfl : vl G 10 0 = true) rfl rfl iX5 0 (by decide) rfl f0 rfl dX5_number_8 ?_
    refine z_get E (ci := 4) (N := 6) (C := RX4) (T := TX4) (vl_w (by decide) hw) rfl rfl iX4 1 (by decide) rfl f1 rfl dX5_number_11 ?_
    refine z_iload_n E dX5_number_14 1 rfl rfl ?_
    refine z_callV E (ci := 3) (N := 5) (C := RX3) (T := TX3) (n := 1) (st := []) (vl_w (by decide) hw) rfl rfl [.int (iI index)] (kX3_numberOf l G P V (P 0) index hw hB (by omega) (by omega) (by omega)) gX5_number_X3_numberOf rfl ⟨rfl, rfl⟩ (by decide +kernel) ⟨Nat.le_of_ble_eq_true rfl, Nat.le_of_ble_eq_true rfl⟩ rfl rfl (Nat.le_of_ble_eq_true rfl) rfl dX5_number_15 (z_dtI ?_)
    have h_2a := nO_R hB (P 0) (V 4 (P 0) 3) index
    refine z_callS E (n := 1) (st := []) [.int (iI (nO (V 4 (P 0) 3) (V 5 (P 0)) index))] (kX5_foundOr l G P V (nO (V 4 (P 0) 3) (V 5 (P 0)) index) (by omega)) gX5_number_X5_foundOr rfl ⟨rfl, rfl⟩ (by decide +kernel) ⟨Nat.le_of_ble_eq_true rfl, Nat.le_of_ble_eq_true rfl⟩ rfl rfl (Nat.le_of_ble_eq_true rfl) rfl dX5_number_18 (z_dtI ?_)
    exact z_iret E Er0 dX5_number_21 (⟨by rw [if_neg (by omega)], rfl, rfl⟩)
  · skip
    refine z_ldc E (-1000001) f2 rfl dX5_number_4 ?_
    exact z_iret E Er0 dX5_number_6 (⟨by rw [if_pos (by omega)], rfl, rfl⟩)

set_option maxHeartbeats 4000000 in
set_option maxRecDepth 100000 in
theorem kX5_blockAt (l : Launch) (G : Gl) (P : Nat → Nat) (V : Vt) (state : Int) (place : Int) (hw : P 0 < 6) (hB : BV V) (hn0 : 0 ≤ V 4 (P 0) 3) (hn1 : V 4 (P 0) 3 ≤ 16) (hL : ∀ j, 0 ≤ V 7 (P 0) j ∧ V 7 (P 0) j < 40) (a1 : inR state) (a2 : inR place) : Met l yX5_blockAt wsX5_blockAt ({ frames := 1, cells := 0, slots := 0, locals := 23 }) (va_Pc [.ref (ad G 10 0), .int (iI state), .int (iI place)] (Sg G P V)) (Qk G mkI (dt (if 0 ≤ (fnd (V 4 (P 0) 3) (fun k => V 5 (P 0) k = state)) ∧ 0 ≤ place ∧ place < 6 then V 7 (P 0) ((fnd (V 4 (P 0) 3) (fun k => V 5 (P 0) k = state)) * 6 + place) else -1000001) P V)) 0 0 (mem G) := by
  refine z_met (cc := cX5_blockAt) (nL := 4) (ret := (some .int)) (own := RX5) (by decide +kernel) rfl rfl (Nat.le_of_ble_eq_true rfl) (L := [some (.ref (ad G 10 0)), some (.int (iI state)), some (.int (iI place)), none]) rfl ?_
  intro X E Er0
  have iX4 : ∀ x ∈ wsX40, x ∈ wsX5_blockAt := by decide +kernel
  have iX5 : ∀ x ∈ wsX50, x ∈ wsX5_blockAt := by decide +kernel
  have f0 : Cond.fieldLink RX5 10 "SharedStates" "world" "LSharedStates$World;" ∈ wsX5_blockAt := by decide +kernel
  have f1 : Cond.fieldLink RX5 72 "SharedStates$World" "states" "LSharedStates$States;" ∈ wsX5_blockAt := by decide +kernel
  have f2 : Cond.constant RX5 85 (-1000001) ∈ wsX5_blockAt := by decide +kernel
  refine z_aload_n E dX5_blockAt_0 0 rfl rfl ?_
  refine z_get E (ci := 5) (N := 4) (C := RX5) (T := TX5) (rfl : vl G 10 0 = true) rfl rfl iX5 0 (by decide) rfl f0 rfl dX5_blockAt_1 ?_
  refine z_get E (ci := 4) (N := 6) (C := RX4) (T := TX4) (vl_w (by decide) hw) rfl rfl iX4 1 (by decide) rfl f1 rfl dX5_blockAt_4 ?_
  refine z_iload_n E dX5_blockAt_7 1 rfl rfl ?_
  refine z_callV E (ci := 3) (N := 5) (C := RX3) (T := TX3) (n := 1) (st := []) (vl_w (by decide) hw) rfl rfl [.int (iI state)] (kX3_slotOf l G P V (P 0) state hw hB (by omega) (by omega) (by omega)) gX5_blockAt_X3_slotOf rfl ⟨rfl, rfl⟩ (by decide +kernel) ⟨Nat.le_of_ble_eq_true rfl, Nat.le_of_ble_eq_true rfl⟩ rfl rfl (Nat.le_of_ble_eq_true rfl) rfl dX5_blockAt_8 (z_dtI ?_)
  have h_1a := fnd_bd (V 4 (P 0) 3) (fun k => V 5 (P 0) k = state) (by omega)
  refine z_istore_n E dX5_blockAt_11 3 rfl (L' := [some (.ref (ad G 10 0)), some (.int (iI state)), some (.int (iI place)), some (.int (iI (fnd (V 4 (P 0) 3) (fun k => V 5 (P 0) k = state))))]) (Nat.le_of_ble_eq_true rfl) rfl ?_
  refine z_iload_n E dX5_blockAt_12 3 rfl rfl ?_
  refine z_if_lt E 25 dX5_blockAt_13 rfl (by omega) (fun c_2 => ?_) (fun c_2 => ?_)
  · skip
    refine z_ldc E (-1000001) f2 rfl dX5_blockAt_25 ?_
    exact z_iret E Er0 dX5_blockAt_27 (⟨by rw [if_neg (by omega)], rfl, rfl⟩)
  · skip
    refine z_iload_n E dX5_blockAt_16 2 rfl rfl ?_
    refine z_bipush E dX5_blockAt_17 rfl ?_
    refine z_callS E (n := 2) (st := []) [.int (iI place), .int (iI 6)] (kX5_isIndex l G P V place 6 (by omega) (by omega)) gX5_blockAt_X5_isIndex rfl ⟨rfl, rfl⟩ (by decide +kernel) ⟨Nat.le_of_ble_eq_true rfl, Nat.le_of_ble_eq_true rfl⟩ rfl rfl (Nat.le_of_ble_eq_true rfl) rfl dX5_blockAt_19 (z_dtI ?_)
    refine z_ifne_b E 28 dX5_blockAt_22 rfl (fun c_4 => ?_) (fun c_4 => ?_)
    · skip
      refine z_aload_n E dX5_blockAt_28 0 rfl rfl ?_
      refine z_get E (ci := 5) (N := 4) (C := RX5) (T := TX5) (rfl : vl G 10 0 = true) rfl rfl iX5 0 (by decide) rfl f0 rfl dX5_blockAt_29 ?_
      refine z_get E (ci := 4) (N := 6) (C := RX4) (T := TX4) (vl_w (by decide) hw) rfl rfl iX4 1 (by decide) rfl f1 rfl dX5_blockAt_32 ?_
      refine z_iload_n E dX5_blockAt_35 3 rfl rfl ?_
      refine z_iload_n E dX5_blockAt_36 2 rfl rfl ?_
      refine z_callV E (ci := 3) (N := 5) (C := RX3) (T := TX3) (n := 2) (st := []) (vl_w (by decide) hw) rfl rfl [.int (iI (fnd (V 4 (P 0) 3) (fun k => V 5 (P 0) k = state))), .int (iI place)] (kX3_block l G P V (P 0) (fnd (V 4 (P 0) 3) (fun k => V 5 (P 0) k = state)) place hw hB (by omega) (by omega) hL (by omega) (by omega) (by omega) (by omega)) gX5_blockAt_X3_block rfl ⟨rfl, rfl⟩ (by decide +kernel) ⟨Nat.le_of_ble_eq_true rfl, Nat.le_of_ble_eq_true rfl⟩ rfl rfl (Nat.le_of_ble_eq_true rfl) rfl dX5_blockAt_37 (z_dtI ?_)
      have h_5a := hL ((fnd (V 4 (P 0) 3) (fun k => V 5 (P 0) k = state)) * 6 + place)
      exact z_iret E Er0 dX5_blockAt_40 (⟨by rw [if_pos (by omega)], rfl, rfl⟩)
    · skip
      refine z_ldc E (-1000001) f2 rfl dX5_blockAt_25 ?_
      exact z_iret E Er0 dX5_blockAt_27 (⟨by rw [if_neg (by omega)], rfl, rfl⟩)

set_option maxHeartbeats 4000000 in
set_option maxRecDepth 100000 in
theorem kX5_head (l : Launch) (G : Gl) (P : Nat → Nat) (V : Vt) (b : Int) (hw : P 0 < 6) (hB : BV V) (a1 : inR b) : Met l yX5_head wsX5_head ({ frames := 2, cells := 0, slots := 0, locals := 42 }) (va_Pc [.ref (ad G 10 0), .int (iI b)] (Sg G P V)) (Qk G mkI (dt (if 0 ≤ b ∧ b < 4 ∧ ¬ V 8 (P 0) b = -1 then V 8 (P 0) b else -1000001) P V)) 0 0 (mem G) := by
  refine z_met (cc := cX5_head) (nL := 2) (ret := (some .int)) (own := RX5) (by decide +kernel) rfl rfl (Nat.le_of_ble_eq_true rfl) (L := [some (.ref (ad G 10 0)), some (.int (iI b))]) rfl ?_
  intro X E Er0
  have iX4 : ∀ x ∈ wsX40, x ∈ wsX5_head := by decide +kernel
  have iX5 : ∀ x ∈ wsX50, x ∈ wsX5_head := by decide +kernel
  have f0 : Cond.fieldLink RX5 10 "SharedStates" "world" "LSharedStates$World;" ∈ wsX5_head := by decide +kernel
  have f1 : Cond.constant RX5 85 (-1000001) ∈ wsX5_head := by decide +kernel
  have f2 : Cond.fieldLink RX5 154 "SharedStates$World" "heads" "[I" ∈ wsX5_head := by decide +kernel
  refine z_aload_n E dX5_head_0 0 rfl rfl ?_
  refine z_get E (ci := 5) (N := 4) (C := RX5) (T := TX5) (rfl : vl G 10 0 = true) rfl rfl iX5 0 (by decide) rfl f0 rfl dX5_head_1 ?_
  refine z_iload_n E dX5_head_4 1 rfl rfl ?_
  refine z_callV E (ci := 4) (N := 6) (C := RX4) (T := TX4) (n := 1) (st := []) (vl_w (by decide) hw) rfl rfl [.int (iI b)] (kX4_isBranch l G P V (P 0) b hw hB (by omega)) gX5_head_X4_isBranch rfl ⟨rfl, rfl⟩ (by decide +kernel) ⟨Nat.le_of_ble_eq_true rfl, Nat.le_of_ble_eq_true rfl⟩ rfl rfl (Nat.le_of_ble_eq_true rfl) rfl dX5_head_5 (z_dtI ?_)
  refine z_ifeq_b E 23 dX5_head_8 rfl (fun c_2 => ?_) (fun c_2 => ?_)
  · skip
    refine z_ldc E (-1000001) f1 rfl dX5_head_23 ?_
    exact z_iret E Er0 dX5_head_25 (⟨by first | rw [if_pos (by omega)] | rw [if_neg (by omega)], rfl, rfl⟩)
  · skip
    refine z_aload_n E dX5_head_11 0 rfl rfl ?_
    refine z_get E (ci := 5) (N := 4) (C := RX5) (T := TX5) (rfl : vl G 10 0 = true) rfl rfl iX5 0 (by decide) rfl f0 rfl dX5_head_12 ?_
    refine z_get E (ci := 4) (N := 6) (C := RX4) (T := TX4) (vl_w (by decide) hw) rfl rfl iX4 2 (by decide) rfl f2 rfl dX5_head_15 ?_
    refine z_iload_n E dX5_head_18 1 rfl rfl ?_
    refine z_iald E (vl_w (by decide) hw) 4 rfl (by omega) (by omega) (by omega) dX5_head_19 ?_
    have hr_3 := hB.g 8 (P 0) b rfl
    refine z_goto E 25 dX5_head_20 rfl ?_
    exact z_iret E Er0 dX5_head_25 (⟨by first | rw [if_pos (by omega)] | rw [if_neg (by omega)], rfl, rfl⟩)

set_option maxHeartbeats 4000000 in
set_option maxRecDepth 100000 in
theorem kX5_stateOf (l : Launch) (G : Gl) (P : Nat → Nat) (V : Vt) (state : Int) (what : Int) (hw : P 0 < 6) (hB : BV V) (hn0 : 0 ≤ V 4 (P 0) 3) (hn1 : V 4 (P 0) 3 ≤ 16) (hL : ∀ j, 0 ≤ V 7 (P 0) j ∧ V 7 (P 0) j < 40) (hps : ∀ s, 0 < s → s < V 4 (P 0) 3 → 0 ≤ fnd (V 4 (P 0) 3) (fun k => V 5 (P 0) k = V 6 (P 0) s)) (a1 : inR state) (a2 : inR what) : Met l yX5_stateOf wsX5_stateOf ({ frames := 4, cells := 0, slots := 0, locals := 93 }) (va_Pc [.ref (ad G 10 0), .int (iI state), .int (iI what)] (Sg G P V)) (Qk G mkI (dt (if (fnd (V 4 (P 0) 3) (fun k => V 5 (P 0) k = state)) < 0 then -1000001 else if what = 0 then fO (V 6 (P 0) (fnd (V 4 (P 0) 3) (fun k => V 5 (P 0) k = state))) else if what = 1 then sm (V 4 (P 0) 3) (fun j => b2i ((fnd (V 4 (P 0) 3) (fun k => V 5 (P 0) k = state)) < j ∧ V 6 (P 0) j = V 5 (P 0) (fnd (V 4 (P 0) 3) (fun k => V 5 (P 0) k = state)))) else if what = 2 then itS (pS (V 4 (P 0) 3) (V 5 (P 0)) (V 6 (P 0))) 16 (fnd (V 4 (P 0) 3) (fun k => V 5 (P 0) k = state)) else if what = 3 then sm 6 (fun p => sm 8 (fun i => V 2 (P 0) (V 7 (P 0) ((fnd (V 4 (P 0) 3) (fun k => V 5 (P 0) k = state)) * 6 + p) * 8 + i))) else if what = 4 then (if (fnd (V 4 (P 0) 3) (fun k => V 5 (P 0) k = state)) = 0 then -1000004 else sm 6 (fun p => b2i (¬ V 7 (P 0) ((fnd (V 4 (P 0) 3) (fun k => V 5 (P 0) k = state)) * 6 + p) = V 7 (P 0) (fnd (V 4 (P 0) 3) (fun k => V 5 (P 0) k = V 6 (P 0) (fnd (V 4 (P 0) 3) (fun k => V 5 (P 0) k = state))) * 6 + p)))) else if what = 5 then sm 6 (fun q => b2i (V 3 (P 0) (V 7 (P 0) ((fnd (V 4 (P 0) 3) (fun k => V 5 (P 0) k = state)) * 6 + q)) = sm 6 (fun p => b2i (V 7 (P 0) ((fnd (V 4 (P 0) 3) (fun k => V 5 (P 0) k = state)) * 6 + p) = V 7 (P 0) ((fnd (V 4 (P 0) 3) (fun k => V 5 (P 0) k = state)) * 6 + q))))) else if what = 6 then sm 6 (fun p => b2i (∀ e, 0 ≤ e → e < p → ¬ V 7 (P 0) ((fnd (V 4 (P 0) 3) (fun k => V 5 (P 0) k = state)) * 6 + e) = V 7 (P 0) ((fnd (V 4 (P 0) 3) (fun k => V 5 (P 0) k = state)) * 6 + p))) else if what = 7 then bits 4 (fun b => V 8 (P 0) b = state) else -1000001) P V)) 0 0 (mem G) := by
  refine z_met (cc := cX5_stateOf) (nL := 4) (ret := (some .int)) (own := RX5) (by decide +kernel) rfl rfl (Nat.le_of_ble_eq_true rfl) (L := [some (.ref (ad G 10 0)), some (.int (iI state)), some (.int (iI what)), none]) rfl ?_
  intro X E Er0
  have iX4 : ∀ x ∈ wsX40, x ∈ wsX5_stateOf := by decide +kernel
  have iX5 : ∀ x ∈ wsX50, x ∈ wsX5_stateOf := by decide +kernel
  have f0 : Cond.fieldLink RX5 10 "SharedStates" "world" "LSharedStates$World;" ∈ wsX5_stateOf := by decide +kernel
  have f1 : Cond.fieldLink RX5 72 "SharedStates$World" "states" "LSharedStates$States;" ∈ wsX5_stateOf := by decide +kernel
  have f2 : Cond.constant RX5 104 (-1000004) ∈ wsX5_stateOf := by decide +kernel
  have f3 : Cond.constant RX5 85 (-1000001) ∈ wsX5_stateOf := by decide +kernel
  refine z_aload_n E dX5_stateOf_0 0 rfl rfl ?_
  refine z_get E (ci := 5) (N := 4) (C := RX5) (T := TX5) (rfl : vl G 10 0 = true) rfl rfl iX5 0 (by decide) rfl f0 rfl dX5_stateOf_1 ?_
  refine z_get E (ci := 4) (N := 6) (C := RX4) (T := TX4) (vl_w (by decide) hw) rfl rfl iX4 1 (by decide) rfl f1 rfl dX5_stateOf_4 ?_
  refine z_iload_n E dX5_stateOf_7 1 rfl rfl ?_
  refine z_callV E (ci := 3) (N := 5) (C := RX3) (T := TX3) (n := 1) (st := []) (vl_w (by decide) hw) rfl rfl [.int (iI state)] (kX3_slotOf l G P V (P 0) state hw hB (by omega) (by omega) (by omega)) gX5_stateOf_X3_slotOf rfl ⟨rfl, rfl⟩ (by decide +kernel) ⟨Nat.le_of_ble_eq_true rfl, Nat.le_of_ble_eq_true rfl⟩ rfl rfl (Nat.le_of_ble_eq_true rfl) rfl dX5_stateOf_8 (z_dtI ?_)
  have h_1a := fnd_bd (V 4 (P 0) 3) (fun k => V 5 (P 0) k = state) (by omega)
  refine z_istore_n E dX5_stateOf_11 3 rfl (L' := [some (.ref (ad G 10 0)), some (.int (iI state)), some (.int (iI what)), some (.int (iI (fnd (V 4 (P 0) 3) (fun k => V 5 (P 0) k = state))))]) (Nat.le_of_ble_eq_true rfl) rfl ?_
  refine z_iload_n E dX5_stateOf_12 3 rfl rfl ?_
  refine z_if_ge E 19 dX5_stateOf_13 rfl (by omega) (fun c_2 => ?_) (fun c_2 => ?_)
  · skip
    refine z_iload_n E dX5_stateOf_19 2 rfl rfl ?_
    by_cases q_3_0 : what = 0
    · skip
      refine z_tsI E 0 68 q_3_0 (by omega) dX5_stateOf_20 (by decide) (by decide) rfl rfl ?_
      refine z_aload_n E dX5_stateOf_68 0 rfl rfl ?_
      refine z_get E (ci := 5) (N := 4) (C := RX5) (T := TX5) (rfl : vl G 10 0 = true) rfl rfl iX5 0 (by decide) rfl f0 rfl dX5_stateOf_69 ?_
      refine z_get E (ci := 4) (N := 6) (C := RX4) (T := TX4) (vl_w (by decide) hw) rfl rfl iX4 1 (by decide) rfl f1 rfl dX5_stateOf_72 ?_
      refine z_iload_n E dX5_stateOf_75 3 rfl rfl ?_
      refine z_callV E (ci := 3) (N := 5) (C := RX3) (T := TX3) (n := 1) (st := []) (vl_w (by decide) hw) rfl rfl [.int (iI (fnd (V 4 (P 0) 3) (fun k => V 5 (P 0) k = state)))] (kX3_parentOf l G P V (P 0) (fnd (V 4 (P 0) 3) (fun k => V 5 (P 0) k = state)) hw hB (by omega) (by omega) (by omega) (by omega)) gX5_stateOf_X3_parentOf rfl ⟨rfl, rfl⟩ (by decide +kernel) ⟨Nat.le_of_ble_eq_true rfl, Nat.le_of_ble_eq_true rfl⟩ rfl rfl (Nat.le_of_ble_eq_true rfl) rfl dX5_stateOf_76 (z_dtI ?_)
      have hr_z := hB.g 6 (P 0) (fnd (V 4 (P 0) 3) (fun k => V 5 (P 0) k = state)) rfl
      refine z_callS E (n := 1) (st := []) [.int (iI (V 6 (P 0) (fnd (V 4 (P 0) 3) (fun k => V 5 (P 0) k = state))))] (kX5_foundOr l G P V (V 6 (P 0) (fnd (V 4 (P 0) 3) (fun k => V 5 (P 0) k = state))) (by omega)) gX5_stateOf_X5_foundOr rfl ⟨rfl, rfl⟩ (by decide +kernel) ⟨Nat.le_of_ble_eq_true rfl, Nat.le_of_ble_eq_true rfl⟩ rfl rfl (Nat.le_of_ble_eq_true rfl) rfl dX5_stateOf_79 (z_dtI ?_)
      exact z_iret E Er0 dX5_stateOf_82 (⟨by rw [if_neg (by omega), if_pos (by omega)], rfl, rfl⟩)
    by_cases q_3_1 : what = 1
    · skip
      refine z_tsI E 1 83 q_3_1 (by omega) dX5_stateOf_20 (by decide) (by decide) rfl rfl ?_
      refine z_aload_n E dX5_stateOf_83 0 rfl rfl ?_
      refine z_get E (ci := 5) (N := 4) (C := RX5) (T := TX5) (rfl : vl G 10 0 = true) rfl rfl iX5 0 (by decide) rfl f0 rfl dX5_stateOf_84 ?_
      refine z_get E (ci := 4) (N := 6) (C := RX4) (T := TX4) (vl_w (by decide) hw) rfl rfl iX4 1 (by decide) rfl f1 rfl dX5_stateOf_87 ?_
      refine z_iload_n E dX5_stateOf_90 3 rfl rfl ?_
      refine z_callV E (ci := 3) (N := 5) (C := RX3) (T := TX3) (n := 1) (st := []) (vl_w (by decide) hw) rfl rfl [.int (iI (fnd (V 4 (P 0) 3) (fun k => V 5 (P 0) k = state)))] (kX3_childrenOf l G P V (P 0) (fnd (V 4 (P 0) 3) (fun k => V 5 (P 0) k = state)) hw hB (by omega) (by omega) (by omega) (by omega)) gX5_stateOf_X3_childrenOf rfl ⟨rfl, rfl⟩ (by decide +kernel) ⟨Nat.le_of_ble_eq_true rfl, Nat.le_of_ble_eq_true rfl⟩ rfl rfl (Nat.le_of_ble_eq_true rfl) rfl dX5_stateOf_91 (z_dtI ?_)
      exact z_iret E Er0 dX5_stateOf_94 (⟨by rw [if_neg (by omega), if_neg (by omega), if_pos (by omega)], rfl, rfl⟩)
    by_cases q_3_2 : what = 2
    · skip
      refine z_tsI E 2 95 q_3_2 (by omega) dX5_stateOf_20 (by decide) (by decide) rfl rfl ?_
      refine z_aload_n E dX5_stateOf_95 0 rfl rfl ?_
      refine z_get E (ci := 5) (N := 4) (C := RX5) (T := TX5) (rfl : vl G 10 0 = true) rfl rfl iX5 0 (by decide) rfl f0 rfl dX5_stateOf_96 ?_
      refine z_get E (ci := 4) (N := 6) (C := RX4) (T := TX4) (vl_w (by decide) hw) rfl rfl iX4 1 (by decide) rfl f1 rfl dX5_stateOf_99 ?_
      refine z_iload_n E dX5_stateOf_102 3 rfl rfl ?_
      refine z_callV E (ci := 3) (N := 5) (C := RX3) (T := TX3) (n := 1) (st := []) (vl_w (by decide) hw) rfl rfl [.int (iI (fnd (V 4 (P 0) 3) (fun k => V 5 (P 0) k = state)))] (kX3_stepsFrom l G P V (P 0) (fnd (V 4 (P 0) 3) (fun k => V 5 (P 0) k = state)) hw hB (by omega) (by omega) (by omega) (by omega)) gX5_stateOf_X3_stepsFrom rfl ⟨rfl, rfl⟩ (by decide +kernel) ⟨Nat.le_of_ble_eq_true rfl, Nat.le_of_ble_eq_true rfl⟩ rfl rfl (Nat.le_of_ble_eq_true rfl) rfl dX5_stateOf_103 (z_dtI ?_)
      exact z_iret E Er0 dX5_stateOf_106 (⟨by rw [if_neg (by omega), if_neg (by omega), if_neg (by omega), if_pos (by omega)], rfl, rfl⟩)
    by_cases q_3_3 : what = 3
    · skip
      refine z_tsI E 3 107 q_3_3 (by omega) dX5_stateOf_20 (by decide) (by decide) rfl rfl ?_
      refine z_aload_n E dX5_stateOf_107 0 rfl rfl ?_
      refine z_get E (ci := 5) (N := 4) (C := RX5) (T := TX5) (rfl : vl G 10 0 = true) rfl rfl iX5 0 (by decide) rfl f0 rfl dX5_stateOf_108 ?_
      refine z_iload_n E dX5_stateOf_111 3 rfl rfl ?_
      refine z_callV E (ci := 4) (N := 6) (C := RX4) (T := TX4) (n := 1) (st := []) (vl_w (by decide) hw) rfl rfl [.int (iI (fnd (V 4 (P 0) 3) (fun k => V 5 (P 0) k = state)))] (kX4_sumOfState l G P V (P 0) (fnd (V 4 (P 0) 3) (fun k => V 5 (P 0) k = state)) hw hB (by omega) (by omega) hL (by omega) (by omega)) gX5_stateOf_X4_sumOfState rfl ⟨rfl, rfl⟩ (by decide +kernel) ⟨Nat.le_of_ble_eq_true rfl, Nat.le_of_ble_eq_true rfl⟩ rfl rfl (Nat.le_of_ble_eq_true rfl) rfl dX5_stateOf_112 (z_dtI ?_)
      exact z_iret E Er0 dX5_stateOf_115 (⟨by rw [if_neg (by omega), if_neg (by omega), if_neg (by omega), if_neg (by omega), if_pos (by omega)], rfl, rfl⟩)
    by_cases q_3_4 : what = 4
    · skip
      refine z_tsI E 4 116 q_3_4 (by omega) dX5_stateOf_20 (by decide) (by decide) rfl rfl ?_
      refine z_iload_n E dX5_stateOf_116 3 rfl rfl ?_
      refine z_if_ne E 125 dX5_stateOf_117 rfl (by omega) (fun c_9 => ?_) (fun c_9 => ?_)
      · skip
        refine z_aload_n E dX5_stateOf_125 0 rfl rfl ?_
        refine z_get E (ci := 5) (N := 4) (C := RX5) (T := TX5) (rfl : vl G 10 0 = true) rfl rfl iX5 0 (by decide) rfl f0 rfl dX5_stateOf_126 ?_
        refine z_get E (ci := 4) (N := 6) (C := RX4) (T := TX4) (vl_w (by decide) hw) rfl rfl iX4 1 (by decide) rfl f1 rfl dX5_stateOf_129 ?_
        refine z_iload_n E dX5_stateOf_132 3 rfl rfl ?_
        refine z_aload_n E dX5_stateOf_133 0 rfl rfl ?_
        refine z_get E (ci := 5) (N := 4) (C := RX5) (T := TX5) (rfl : vl G 10 0 = true) rfl rfl iX5 0 (by decide) rfl f0 rfl dX5_stateOf_134 ?_
        refine z_get E (ci := 4) (N := 6) (C := RX4) (T := TX4) (vl_w (by decide) hw) rfl rfl iX4 1 (by decide) rfl f1 rfl dX5_stateOf_137 ?_
        refine z_iload_n E dX5_stateOf_140 3 rfl rfl ?_
        refine z_callV E (ci := 3) (N := 5) (C := RX3) (T := TX3) (n := 1) (st := [.int (iI (fnd (V 4 (P 0) 3) (fun k => V 5 (P 0) k = state))), .ref (ad G 4 (P 0))]) (vl_w (by decide) hw) rfl rfl [.int (iI (fnd (V 4 (P 0) 3) (fun k => V 5 (P 0) k = state)))] (kX3_parentSlot l G P V (P 0) (fnd (V 4 (P 0) 3) (fun k => V 5 (P 0) k = state)) hw hB (by omega) (by omega) (by omega) (by omega)) gX5_stateOf_X3_parentSlot rfl ⟨rfl, rfl⟩ (by decide +kernel) ⟨Nat.le_of_ble_eq_true rfl, Nat.le_of_ble_eq_true rfl⟩ rfl rfl (Nat.le_of_ble_eq_true rfl) rfl dX5_stateOf_141 (z_dtI ?_)
        have h_10a := fnd_bd (V 4 (P 0) 3) (fun k => V 5 (P 0) k = V 6 (P 0) (fnd (V 4 (P 0) 3) (fun k => V 5 (P 0) k = state))) (by omega)
        have hr_z := hps (fnd (V 4 (P 0) 3) (fun k => V 5 (P 0) k = state)) (by omega) (by omega)
        refine z_callV E (ci := 3) (N := 5) (C := RX3) (T := TX3) (n := 2) (st := []) (vl_w (by decide) hw) rfl rfl [.int (iI (fnd (V 4 (P 0) 3) (fun k => V 5 (P 0) k = state))), .int (iI (fnd (V 4 (P 0) 3) (fun k => V 5 (P 0) k = V 6 (P 0) (fnd (V 4 (P 0) 3) (fun k => V 5 (P 0) k = state)))))] (kX3_unlikePlaces l G P V (P 0) (fnd (V 4 (P 0) 3) (fun k => V 5 (P 0) k = state)) (fnd (V 4 (P 0) 3) (fun k => V 5 (P 0) k = V 6 (P 0) (fnd (V 4 (P 0) 3) (fun k => V 5 (P 0) k = state)))) hw hB (by omega) (by omega) hL (by omega) (by omega) (by omega) (by omega)) gX5_stateOf_X3_unlikePlaces rfl ⟨rfl, rfl⟩ (by decide +kernel) ⟨Nat.le_of_ble_eq_true rfl, Nat.le_of_ble_eq_true rfl⟩ rfl rfl (Nat.le_of_ble_eq_true rfl) rfl dX5_stateOf_144 (z_dtI ?_)
        exact z_iret E Er0 dX5_stateOf_147 (⟨by first | (rw [if_neg (by omega), if_neg (by omega), if_neg (by omega), if_neg (by omega), if_neg (by omega), if_pos (by omega), if_pos (by omega)]; done) | (rw [if_neg (by omega), if_neg (by omega), if_neg (by omega), if_neg (by omega), if_neg (by omega), if_pos (by omega), if_neg (by omega)]; done), rfl, rfl⟩)
      · skip
        refine z_ldc E (-1000004) f2 rfl dX5_stateOf_120 ?_
        refine z_goto E 147 dX5_stateOf_122 rfl ?_
        exact z_iret E Er0 dX5_stateOf_147 (⟨by first | (rw [if_neg (by omega), if_neg (by omega), if_neg (by omega), if_neg (by omega), if_neg (by omega), if_pos (by omega), if_pos (by omega)]; done) | (rw [if_neg (by omega), if_neg (by omega), if_neg (by omega), if_neg (by omega), if_neg (by omega), if_pos (by omega), if_neg (by omega)]; done), rfl, rfl⟩)
    by_cases q_3_5 : what = 5
    · skip
      refine z_tsI E 5 148 q_3_5 (by omega) dX5_stateOf_20 (by decide) (by decide) rfl rfl ?_
      refine z_aload_n E dX5_stateOf_148 0 rfl rfl ?_
      refine z_get E (ci := 5) (N := 4) (C := RX5) (T := TX5) (rfl : vl G 10 0 = true) rfl rfl iX5 0 (by decide) rfl f0 rfl dX5_stateOf_149 ?_
      refine z_iload_n E dX5_stateOf_152 3 rfl rfl ?_
      refine z_callV E (ci := 4) (N := 6) (C := RX4) (T := TX4) (n := 1) (st := []) (vl_w (by decide) hw) rfl rfl [.int (iI (fnd (V 4 (P 0) 3) (fun k => V 5 (P 0) k = state)))] (kX4_placesOfItsOwn l G P V (P 0) (fnd (V 4 (P 0) 3) (fun k => V 5 (P 0) k = state)) hw hB (by omega) (by omega) hL (by omega) (by omega)) gX5_stateOf_X4_placesOfItsOwn rfl ⟨rfl, rfl⟩ (by decide +kernel) ⟨Nat.le_of_ble_eq_true rfl, Nat.le_of_ble_eq_true rfl⟩ rfl rfl (Nat.le_of_ble_eq_true rfl) rfl dX5_stateOf_153 (z_dtI ?_)
      exact z_iret E Er0 dX5_stateOf_156 (⟨by rw [if_neg (by omega), if_neg (by omega), if_neg (by omega), if_neg (by omega), if_neg (by omega), if_neg (by omega), if_pos (by omega)], rfl, rfl⟩)
    by_cases q_3_6 : what = 6
    · skip
      refine z_tsI E 6 157 q_3_6 (by omega) dX5_stateOf_20 (by decide) (by decide) rfl rfl ?_
      refine z_aload_n E dX5_stateOf_157 0 rfl rfl ?_
      refine z_get E (ci := 5) (N := 4) (C := RX5) (T := TX5) (rfl : vl G 10 0 = true) rfl rfl iX5 0 (by decide) rfl f0 rfl dX5_stateOf_158 ?_
      refine z_get E (ci := 4) (N := 6) (C := RX4) (T := TX4) (vl_w (by decide) hw) rfl rfl iX4 1 (by decide) rfl f1 rfl dX5_stateOf_161 ?_
      refine z_iload_n E dX5_stateOf_164 3 rfl rfl ?_
      refine z_callV E (ci := 3) (N := 5) (C := RX3) (T := TX3) (n := 1) (st := []) (vl_w (by decide) hw) rfl rfl [.int (iI (fnd (V 4 (P 0) 3) (fun k => V 5 (P 0) k = state)))] (kX3_blocksIn l G P V (P 0) (fnd (V 4 (P 0) 3) (fun k => V 5 (P 0) k = state)) hw hB (by omega) (by omega) hL (by omega) (by omega)) gX5_stateOf_X3_blocksIn rfl ⟨rfl, rfl⟩ (by decide +kernel) ⟨Nat.le_of_ble_eq_true rfl, Nat.le_of_ble_eq_true rfl⟩ rfl rfl (Nat.le_of_ble_eq_true rfl) rfl dX5_stateOf_165 (z_dtI ?_)
      exact z_iret E Er0 dX5_stateOf_168 (⟨by rw [if_neg (by omega), if_neg (by omega), if_neg (by omega), if_neg (by omega), if_neg (by omega), if_neg (by omega), if_neg (by omega), if_pos (by omega)], rfl, rfl⟩)
    by_cases q_3_7 : what = 7
    · skip
      refine z_tsI E 7 169 q_3_7 (by omega) dX5_stateOf_20 (by decide) (by decide) rfl rfl ?_
      refine z_aload_n E dX5_stateOf_169 0 rfl rfl ?_
      refine z_get E (ci := 5) (N := 4) (C := RX5) (T := TX5) (rfl : vl G 10 0 = true) rfl rfl iX5 0 (by decide) rfl f0 rfl dX5_stateOf_170 ?_
      refine z_iload_n E dX5_stateOf_173 1 rfl rfl ?_
      refine z_callV E (ci := 4) (N := 6) (C := RX4) (T := TX4) (n := 1) (st := []) (vl_w (by decide) hw) rfl rfl [.int (iI state)] (kX4_branchesAt l G P V (P 0) state hw hB (by omega)) gX5_stateOf_X4_branchesAt rfl ⟨rfl, rfl⟩ (by decide +kernel) ⟨Nat.le_of_ble_eq_true rfl, Nat.le_of_ble_eq_true rfl⟩ rfl rfl (Nat.le_of_ble_eq_true rfl) rfl dX5_stateOf_174 (z_dtI ?_)
      have h_14a := bits4_bd (fun b => V 8 (P 0) b = state)
      exact z_iret E Er0 dX5_stateOf_177 (⟨by rw [if_neg (by omega), if_neg (by omega), if_neg (by omega), if_neg (by omega), if_neg (by omega), if_neg (by omega), if_neg (by omega), if_neg (by omega), if_pos (by omega)], rfl, rfl⟩)
    refine z_tsO E 178 (by omega) dX5_stateOf_20 (by omega) rfl ?_
    refine z_ldc E (-1000001) f3 rfl dX5_stateOf_178 ?_
    exact z_iret E Er0 dX5_stateOf_180 (⟨by rw [if_neg (by omega), if_neg (by omega), if_neg (by omega), if_neg (by omega), if_neg (by omega), if_neg (by omega), if_neg (by omega), if_neg (by omega), if_neg (by omega)], rfl, rfl⟩)
  · skip
    refine z_ldc E (-1000001) f3 rfl dX5_stateOf_16 ?_
    exact z_iret E Er0 dX5_stateOf_18 (⟨by rw [if_pos (by omega)], rfl, rfl⟩)

set_option maxHeartbeats 4000000 in
set_option maxRecDepth 100000 in
theorem kX5_blockOf (l : Launch) (G : Gl) (P : Nat → Nat) (V : Vt) (block : Int) (what : Int) (hw : P 0 < 6) (hB : BV V) (hn0 : 0 ≤ V 4 (P 0) 3) (hn1 : V 4 (P 0) 3 ≤ 16) (hL : ∀ j, 0 ≤ V 7 (P 0) j ∧ V 7 (P 0) j < 40) (a1 : inR block) (a2 : inR what) : Met l yX5_blockOf wsX5_blockOf ({ frames := 3, cells := 0, slots := 0, locals := 70 }) (va_Pc [.ref (ad G 10 0), .int (iI block), .int (iI what)] (Sg G P V)) (Qk G mkI (dt (if ¬ (0 ≤ block ∧ block < 40 ∧ 0 < V 3 (P 0) block) then -1000001 else if what = 0 then V 3 (P 0) block else if what = 1 then sm (V 4 (P 0) 3) (fun k => b2i (0 < sm 6 (fun p => b2i (V 7 (P 0) (k * 6 + p) = block)))) else if what = 2 then sm 8 (fun i => V 2 (P 0) (block * 8 + i)) else if what = 3 then bits 8 (fun i => V 2 (P 0) (block * 8 + i) ≠ 0) else if what = 4 then fO (fnd 40 (fun o => o ≠ block ∧ V 3 (P 0) o ≠ 0 ∧ eq8 (V 2 (P 0)) (V 2 (P 0)) (o * 8) (block * 8))) else -1000001) P V)) 0 0 (mem G) := by
  refine z_met (cc := cX5_blockOf) (nL := 3) (ret := (some .int)) (own := RX5) (by decide +kernel) rfl rfl (Nat.le_of_ble_eq_true rfl) (L := [some (.ref (ad G 10 0)), some (.int (iI block)), some (.int (iI what))]) rfl ?_
  intro X E Er0
  have iX4 : ∀ x ∈ wsX40, x ∈ wsX5_blockOf := by decide +kernel
  have iX5 : ∀ x ∈ wsX50, x ∈ wsX5_blockOf := by decide +kernel
  have f0 : Cond.fieldLink RX5 10 "SharedStates" "world" "LSharedStates$World;" ∈ wsX5_blockOf := by decide +kernel
  have f1 : Cond.fieldLink RX5 126 "SharedStates$World" "blocks" "LSharedStates$Blocks;" ∈ wsX5_blockOf := by decide +kernel
  have f2 : Cond.fieldLink RX5 72 "SharedStates$World" "states" "LSharedStates$States;" ∈ wsX5_blockOf := by decide +kernel
  have f3 : Cond.constant RX5 85 (-1000001) ∈ wsX5_blockOf := by decide +kernel
  refine z_aload_n E dX5_blockOf_0 0 rfl rfl ?_
  refine z_get E (ci := 5) (N := 4) (C := RX5) (T := TX5) (rfl : vl G 10 0 = true) rfl rfl iX5 0 (by decide) rfl f0 rfl dX5_blockOf_1 ?_
  refine z_get E (ci := 4) (N := 6) (C := RX4) (T := TX4) (vl_w (by decide) hw) rfl rfl iX4 0 (by decide) rfl f1 rfl dX5_blockOf_4 ?_
  refine z_iload_n E dX5_blockOf_7 1 rfl rfl ?_
  refine z_callV E (ci := 0) (N := 4) (C := RX0) (T := TX0) (n := 1) (st := []) (vl_w (by decide) hw) rfl rfl [.int (iI block)] (kX0_isThere l G P V (P 0) block hw hB (by omega)) gX5_blockOf_X0_isThere rfl ⟨rfl, rfl⟩ (by decide +kernel) ⟨Nat.le_of_ble_eq_true rfl, Nat.le_of_ble_eq_true rfl⟩ rfl rfl (Nat.le_of_ble_eq_true rfl) rfl dX5_blockOf_8 (z_dtI ?_)
  refine z_ifne_b E 17 dX5_blockOf_11 rfl (fun c_2 => ?_) (fun c_2 => ?_)
  · skip
    refine z_iload_n E dX5_blockOf_17 2 rfl rfl ?_
    by_cases q_3_0 : what = 0
    · skip
      refine z_tsI E 0 52 q_3_0 (by omega) dX5_blockOf_18 (by decide) (by decide) rfl rfl ?_
      refine z_aload_n E dX5_blockOf_52 0 rfl rfl ?_
      refine z_get E (ci := 5) (N := 4) (C := RX5) (T := TX5) (rfl : vl G 10 0 = true) rfl rfl iX5 0 (by decide) rfl f0 rfl dX5_blockOf_53 ?_
      refine z_get E (ci := 4) (N := 6) (C := RX4) (T := TX4) (vl_w (by decide) hw) rfl rfl iX4 0 (by decide) rfl f1 rfl dX5_blockOf_56 ?_
      refine z_iload_n E dX5_blockOf_59 1 rfl rfl ?_
      refine z_callV E (ci := 0) (N := 4) (C := RX0) (T := TX0) (n := 1) (st := []) (vl_w (by decide) hw) rfl rfl [.int (iI block)] (kX0_usesOf l G P V (P 0) block hw hB (by omega) (by omega)) gX5_blockOf_X0_usesOf rfl ⟨rfl, rfl⟩ (by decide +kernel) ⟨Nat.le_of_ble_eq_true rfl, Nat.le_of_ble_eq_true rfl⟩ rfl rfl (Nat.le_of_ble_eq_true rfl) rfl dX5_blockOf_60 (z_dtI ?_)
      exact z_iret E Er0 dX5_blockOf_63 (⟨by rw [if_neg (by omega), if_pos (by omega)], rfl, rfl⟩)
    by_cases q_3_1 : what = 1
    · skip
      refine z_tsI E 1 64 q_3_1 (by omega) dX5_blockOf_18 (by decide) (by decide) rfl rfl ?_
      refine z_aload_n E dX5_blockOf_64 0 rfl rfl ?_
      refine z_get E (ci := 5) (N := 4) (C := RX5) (T := TX5) (rfl : vl G 10 0 = true) rfl rfl iX5 0 (by decide) rfl f0 rfl dX5_blockOf_65 ?_
      refine z_get E (ci := 4) (N := 6) (C := RX4) (T := TX4) (vl_w (by decide) hw) rfl rfl iX4 1 (by decide) rfl f2 rfl dX5_blockOf_68 ?_
      refine z_iload_n E dX5_blockOf_71 1 rfl rfl ?_
      refine z_callV E (ci := 3) (N := 5) (C := RX3) (T := TX3) (n := 1) (st := []) (vl_w (by decide) hw) rfl rfl [.int (iI block)] (kX3_statesWith l G P V (P 0) block hw hB (by omega) (by omega) hL (by omega)) gX5_blockOf_X3_statesWith rfl ⟨rfl, rfl⟩ (by decide +kernel) ⟨Nat.le_of_ble_eq_true rfl, Nat.le_of_ble_eq_true rfl⟩ rfl rfl (Nat.le_of_ble_eq_true rfl) rfl dX5_blockOf_72 (z_dtI ?_)
      exact z_iret E Er0 dX5_blockOf_75 (⟨by rw [if_neg (by omega), if_neg (by omega), if_pos (by omega)], rfl, rfl⟩)
    by_cases q_3_2 : what = 2
    · skip
      refine z_tsI E 2 76 q_3_2 (by omega) dX5_blockOf_18 (by decide) (by decide) rfl rfl ?_
      refine z_aload_n E dX5_blockOf_76 0 rfl rfl ?_
      refine z_get E (ci := 5) (N := 4) (C := RX5) (T := TX5) (rfl : vl G 10 0 = true) rfl rfl iX5 0 (by decide) rfl f0 rfl dX5_blockOf_77 ?_
      refine z_get E (ci := 4) (N := 6) (C := RX4) (T := TX4) (vl_w (by decide) hw) rfl rfl iX4 0 (by decide) rfl f1 rfl dX5_blockOf_80 ?_
      refine z_iload_n E dX5_blockOf_83 1 rfl rfl ?_
      refine z_callV E (ci := 0) (N := 4) (C := RX0) (T := TX0) (n := 1) (st := []) (vl_w (by decide) hw) rfl rfl [.int (iI block)] (kX0_sumOf l G P V (P 0) block hw hB (by omega) (by omega)) gX5_blockOf_X0_sumOf rfl ⟨rfl, rfl⟩ (by decide +kernel) ⟨Nat.le_of_ble_eq_true rfl, Nat.le_of_ble_eq_true rfl⟩ rfl rfl (Nat.le_of_ble_eq_true rfl) rfl dX5_blockOf_84 (z_dtI ?_)
      exact z_iret E Er0 dX5_blockOf_87 (⟨by rw [if_neg (by omega), if_neg (by omega), if_neg (by omega), if_pos (by omega)], rfl, rfl⟩)
    by_cases q_3_3 : what = 3
    · skip
      refine z_tsI E 3 88 q_3_3 (by omega) dX5_blockOf_18 (by decide) (by decide) rfl rfl ?_
      refine z_aload_n E dX5_blockOf_88 0 rfl rfl ?_
      refine z_get E (ci := 5) (N := 4) (C := RX5) (T := TX5) (rfl : vl G 10 0 = true) rfl rfl iX5 0 (by decide) rfl f0 rfl dX5_blockOf_89 ?_
      refine z_get E (ci := 4) (N := 6) (C := RX4) (T := TX4) (vl_w (by decide) hw) rfl rfl iX4 0 (by decide) rfl f1 rfl dX5_blockOf_92 ?_
      refine z_iload_n E dX5_blockOf_95 1 rfl rfl ?_
      refine z_callV E (ci := 0) (N := 4) (C := RX0) (T := TX0) (n := 1) (st := []) (vl_w (by decide) hw) rfl rfl [.int (iI block)] (kX0_nonZeroCells l G P V (P 0) block hw hB (by omega) (by omega)) gX5_blockOf_X0_nonZeroCells rfl ⟨rfl, rfl⟩ (by decide +kernel) ⟨Nat.le_of_ble_eq_true rfl, Nat.le_of_ble_eq_true rfl⟩ rfl rfl (Nat.le_of_ble_eq_true rfl) rfl dX5_blockOf_96 (z_dtI ?_)
      exact z_iret E Er0 dX5_blockOf_99 (⟨by rw [if_neg (by omega), if_neg (by omega), if_neg (by omega), if_neg (by omega), if_pos (by omega)], rfl, rfl⟩)
    by_cases q_3_4 : what = 4
    · skip
      refine z_tsI E 4 100 q_3_4 (by omega) dX5_blockOf_18 (by decide) (by decide) rfl rfl ?_
      refine z_aload_n E dX5_blockOf_100 0 rfl rfl ?_
      refine z_get E (ci := 5) (N := 4) (C := RX5) (T := TX5) (rfl : vl G 10 0 = true) rfl rfl iX5 0 (by decide) rfl f0 rfl dX5_blockOf_101 ?_
      refine z_get E (ci := 4) (N := 6) (C := RX4) (T := TX4) (vl_w (by decide) hw) rfl rfl iX4 0 (by decide) rfl f1 rfl dX5_blockOf_104 ?_
      refine z_iload_n E dX5_blockOf_107 1 rfl rfl ?_
      refine z_callV E (ci := 0) (N := 4) (C := RX0) (T := TX0) (n := 1) (st := []) (vl_w (by decide) hw) rfl rfl [.int (iI block)] (kX0_lowestOtherLike l G P V (P 0) block hw hB (by omega) (by omega)) gX5_blockOf_X0_lowestOtherLike rfl ⟨rfl, rfl⟩ (by decide +kernel) ⟨Nat.le_of_ble_eq_true rfl, Nat.le_of_ble_eq_true rfl⟩ rfl rfl (Nat.le_of_ble_eq_true rfl) rfl dX5_blockOf_108 (z_dtI ?_)
      have h_8a := fnd_bd 40 (fun o => o ≠ block ∧ V 3 (P 0) o ≠ 0 ∧ eq8 (V 2 (P 0)) (V 2 (P 0)) (o * 8) (block * 8)) (by omega)
      refine z_callS E (n := 1) (st := []) [.int (iI (fnd 40 (fun o => o ≠ block ∧ V 3 (P 0) o ≠ 0 ∧ eq8 (V 2 (P 0)) (V 2 (P 0)) (o * 8) (block * 8))))] (kX5_foundOr l G P V (fnd 40 (fun o => o ≠ block ∧ V 3 (P 0) o ≠ 0 ∧ eq8 (V 2 (P 0)) (V 2 (P 0)) (o * 8) (block * 8))) (by omega)) gX5_blockOf_X5_foundOr rfl ⟨rfl, rfl⟩ (by decide +kernel) ⟨Nat.le_of_ble_eq_true rfl, Nat.le_of_ble_eq_true rfl⟩ rfl rfl (Nat.le_of_ble_eq_true rfl) rfl dX5_blockOf_111 (z_dtI ?_)
      exact z_iret E Er0 dX5_blockOf_114 (⟨by rw [if_neg (by omega), if_neg (by omega), if_neg (by omega), if_neg (by omega), if_neg (by omega), if_pos (by omega)], rfl, rfl⟩)
    refine z_tsO E 115 (by omega) dX5_blockOf_18 (by omega) rfl ?_
    refine z_ldc E (-1000001) f3 rfl dX5_blockOf_115 ?_
    exact z_iret E Er0 dX5_blockOf_117 (⟨by rw [if_neg (by omega), if_neg (by omega), if_neg (by omega), if_neg (by omega), if_neg (by omega), if_neg (by omega)], rfl, rfl⟩)
  · skip
    refine z_ldc E (-1000001) f3 rfl dX5_blockOf_14 ?_
    exact z_iret E Er0 dX5_blockOf_16 (⟨by rw [if_pos (by omega)], rfl, rfl⟩)

set_option maxHeartbeats 4000000 in
set_option maxRecDepth 100000 in
theorem kX5_count (l : Launch) (G : Gl) (P : Nat → Nat) (V : Vt) (what : Int) (hw : P 0 < 6) (hB : BV V) (hn0 : 0 ≤ V 4 (P 0) 3) (hn1 : V 4 (P 0) 3 ≤ 16) (hL : ∀ j, 0 ≤ V 7 (P 0) j ∧ V 7 (P 0) j < 40) (a1 : inR what) : Met l yX5_count wsX5_count ({ frames := 3, cells := 0, slots := 0, locals := 69 }) (va_Pc [.ref (ad G 10 0), .int (iI what)] (Sg G P V)) (Qk G mkI (dt (if what = 0 then V 4 (P 0) 3 else if what = 1 then sm 4 (fun b => b2i (¬ V 8 (P 0) b = -1)) else if what = 2 then sm 40 (fun b => b2i (0 < V 3 (P 0) b)) else if what = 3 then V 4 (P 0) 3 * 6 else if what = 4 then sm 40 (fun b => b2i (0 < V 3 (P 0) b ∧ fnd 40 (fun a => V 3 (P 0) a ≠ 0 ∧ eq8 (V 2 (P 0)) (V 2 (P 0)) (a * 8) (b * 8)) < b)) else if what = 5 then V 4 (P 0) 4 else if what = 6 then V 1 (P 0) 2 else if what = 7 then V 1 (P 0) 3 else if what = 8 then V 0 (P 0) 5 else if what = 9 then V 11 0 2 else if what = 10 then V 13 0 2 else if what = 20 then V 0 (P 0) 4 else -1000001) P V)) 0 0 (mem G) := by
  refine z_met (cc := cX5_count) (nL := 2) (ret := (some .int)) (own := RX5) (by decide +kernel) rfl rfl (Nat.le_of_ble_eq_true rfl) (L := [some (.ref (ad G 10 0)), some (.int (iI what))]) rfl ?_
  intro X E Er0
  have iX0 : ∀ x ∈ wsX00, x ∈ wsX5_count := by decide +kernel
  have iX1 : ∀ x ∈ wsX10, x ∈ wsX5_count := by decide +kernel
  have iX2 : ∀ x ∈ wsX20, x ∈ wsX5_count := by decide +kernel
  have iX3 : ∀ x ∈ wsX30, x ∈ wsX5_count := by decide +kernel
  have iX4 : ∀ x ∈ wsX40, x ∈ wsX5_count := by decide +kernel
  have iX5 : ∀ x ∈ wsX50, x ∈ wsX5_count := by decide +kernel
  have f0 : Cond.fieldLink RX5 10 "SharedStates" "world" "LSharedStates$World;" ∈ wsX5_count := by decide +kernel
  have f1 : Cond.fieldLink RX5 72 "SharedStates$World" "states" "LSharedStates$States;" ∈ wsX5_count := by decide +kernel
  have f2 : Cond.fieldLink RX5 167 "SharedStates$States" "size" "I" ∈ wsX5_count := by decide +kernel
  have f3 : Cond.fieldLink RX5 126 "SharedStates$World" "blocks" "LSharedStates$Blocks;" ∈ wsX5_count := by decide +kernel
  have f4 : Cond.fieldLink RX5 194 "SharedStates$States" "made" "I" ∈ wsX5_count := by decide +kernel
  have f5 : Cond.fieldLink RX5 197 "SharedStates$Blocks" "made" "I" ∈ wsX5_count := by decide +kernel
  have f6 : Cond.fieldLink RX5 198 "SharedStates$Blocks" "taken" "I" ∈ wsX5_count := by decide +kernel
  have f7 : Cond.fieldLink RX5 201 "SharedStates$World" "conflictsSoFar" "I" ∈ wsX5_count := by decide +kernel
  have f8 : Cond.fieldLink RX5 22 "SharedStates" "history" "LSharedStates$History;" ∈ wsX5_count := by decide +kernel
  have f9 : Cond.fieldLink RX5 204 "SharedStates$History" "size" "I" ∈ wsX5_count := by decide +kernel
  have f10 : Cond.fieldLink RX5 29 "SharedStates" "orders" "LSharedStates$Orders;" ∈ wsX5_count := by decide +kernel
  have f11 : Cond.fieldLink RX5 205 "SharedStates$Orders" "length" "I" ∈ wsX5_count := by decide +kernel
  have f12 : Cond.constant RX5 85 (-1000001) ∈ wsX5_count := by decide +kernel
  have f13 : Cond.fieldLink RX5 208 "SharedStates$World" "sharing" "I" ∈ wsX5_count := by decide +kernel
  refine z_iload_n E dX5_count_0 1 rfl rfl ?_
  by_cases q_1_0 : what = 0
  · skip
    refine z_tsI E 0 100 q_1_0 (by omega) dX5_count_1 (by decide) (by decide) rfl rfl ?_
    refine z_aload_n E dX5_count_100 0 rfl rfl ?_
    refine z_get E (ci := 5) (N := 4) (C := RX5) (T := TX5) (rfl : vl G 10 0 = true) rfl rfl iX5 0 (by decide) rfl f0 rfl dX5_count_101 ?_
    refine z_get E (ci := 4) (N := 6) (C := RX4) (T := TX4) (vl_w (by decide) hw) rfl rfl iX4 1 (by decide) rfl f1 rfl dX5_count_104 ?_
    have hr_2 := hB.g 4 (P 0) 3 rfl
    refine z_get E (ci := 3) (N := 5) (C := RX3) (T := TX3) (vl_w (by decide) hw) rfl rfl iX3 3 (by decide) rfl f2 rfl dX5_count_107 ?_
    exact z_iret E Er0 dX5_count_110 (⟨by rw [if_pos (by omega)], rfl, rfl⟩)
  by_cases q_1_1 : what = 1
  · skip
    refine z_tsI E 1 111 q_1_1 (by omega) dX5_count_1 (by decide) (by decide) rfl rfl ?_
    refine z_aload_n E dX5_count_111 0 rfl rfl ?_
    refine z_get E (ci := 5) (N := 4) (C := RX5) (T := TX5) (rfl : vl G 10 0 = true) rfl rfl iX5 0 (by decide) rfl f0 rfl dX5_count_112 ?_
    refine z_callV E (ci := 4) (N := 6) (C := RX4) (T := TX4) (n := 0) (st := []) (vl_w (by decide) hw) rfl rfl [] (kX4_branchesThere l G P V (P 0)  hw hB) gX5_count_X4_branchesThere rfl ⟨rfl, rfl⟩ (by decide +kernel) ⟨Nat.le_of_ble_eq_true rfl, Nat.le_of_ble_eq_true rfl⟩ rfl rfl (Nat.le_of_ble_eq_true rfl) rfl dX5_count_115 (z_dtI ?_)
    have h_3a := sm_b2i_bd (n := 4) (p := fun b => ¬ V 8 (P 0) b = -1) (by omega)
    exact z_iret E Er0 dX5_count_118 (⟨by rw [if_neg (by omega), if_pos (by omega)], rfl, rfl⟩)
  by_cases q_1_2 : what = 2
  · skip
    refine z_tsI E 2 119 q_1_2 (by omega) dX5_count_1 (by decide) (by decide) rfl rfl ?_
    refine z_aload_n E dX5_count_119 0 rfl rfl ?_
    refine z_get E (ci := 5) (N := 4) (C := RX5) (T := TX5) (rfl : vl G 10 0 = true) rfl rfl iX5 0 (by decide) rfl f0 rfl dX5_count_120 ?_
    refine z_get E (ci := 4) (N := 6) (C := RX4) (T := TX4) (vl_w (by decide) hw) rfl rfl iX4 0 (by decide) rfl f3 rfl dX5_count_123 ?_
    refine z_callV E (ci := 0) (N := 4) (C := RX0) (T := TX0) (n := 0) (st := []) (vl_w (by decide) hw) rfl rfl [] (kX0_there l G P V (P 0)  hw hB) gX5_count_X0_there rfl ⟨rfl, rfl⟩ (by decide +kernel) ⟨Nat.le_of_ble_eq_true rfl, Nat.le_of_ble_eq_true rfl⟩ rfl rfl (Nat.le_of_ble_eq_true rfl) rfl dX5_count_126 (z_dtI ?_)
    have h_4a := sm_b2i_bd (n := 40) (p := fun b => 0 < V 3 (P 0) b) (by omega)
    exact z_iret E Er0 dX5_count_129 (⟨by rw [if_neg (by omega), if_neg (by omega), if_pos (by omega)], rfl, rfl⟩)
  by_cases q_1_3 : what = 3
  · skip
    refine z_tsI E 3 130 q_1_3 (by omega) dX5_count_1 (by decide) (by decide) rfl rfl ?_
    refine z_aload_n E dX5_count_130 0 rfl rfl ?_
    refine z_get E (ci := 5) (N := 4) (C := RX5) (T := TX5) (rfl : vl G 10 0 = true) rfl rfl iX5 0 (by decide) rfl f0 rfl dX5_count_131 ?_
    refine z_get E (ci := 4) (N := 6) (C := RX4) (T := TX4) (vl_w (by decide) hw) rfl rfl iX4 1 (by decide) rfl f1 rfl dX5_count_134 ?_
    have hr_5 := hB.g 4 (P 0) 3 rfl
    refine z_get E (ci := 3) (N := 5) (C := RX3) (T := TX3) (vl_w (by decide) hw) rfl rfl iX3 3 (by decide) rfl f2 rfl dX5_count_137 ?_
    refine z_bipush E dX5_count_140 rfl ?_
    refine z_imul E dX5_count_142 ?_
    exact z_iret E Er0 dX5_count_143 (⟨by rw [if_neg (by omega), if_neg (by omega), if_neg (by omega), if_pos (by omega)], rfl, rfl⟩)
  by_cases q_1_4 : what = 4
  · skip
    refine z_tsI E 4 144 q_1_4 (by omega) dX5_count_1 (by decide) (by decide) rfl rfl ?_
    refine z_aload_n E dX5_count_144 0 rfl rfl ?_
    refine z_get E (ci := 5) (N := 4) (C := RX5) (T := TX5) (rfl : vl G 10 0 = true) rfl rfl iX5 0 (by decide) rfl f0 rfl dX5_count_145 ?_
    refine z_get E (ci := 4) (N := 6) (C := RX4) (T := TX4) (vl_w (by decide) hw) rfl rfl iX4 0 (by decide) rfl f3 rfl dX5_count_148 ?_
    refine z_callV E (ci := 0) (N := 4) (C := RX0) (T := TX0) (n := 0) (st := []) (vl_w (by decide) hw) rfl rfl [] (kX0_doubles l G P V (P 0)  hw hB) gX5_count_X0_doubles rfl ⟨rfl, rfl⟩ (by decide +kernel) ⟨Nat.le_of_ble_eq_true rfl, Nat.le_of_ble_eq_true rfl⟩ rfl rfl (Nat.le_of_ble_eq_true rfl) rfl dX5_count_151 (z_dtI ?_)
    exact z_iret E Er0 dX5_count_154 (⟨by rw [if_neg (by omega), if_neg (by omega), if_neg (by omega), if_neg (by omega), if_pos (by omega)], rfl, rfl⟩)
  by_cases q_1_5 : what = 5
  · skip
    refine z_tsI E 5 155 q_1_5 (by omega) dX5_count_1 (by decide) (by decide) rfl rfl ?_
    refine z_aload_n E dX5_count_155 0 rfl rfl ?_
    refine z_get E (ci := 5) (N := 4) (C := RX5) (T := TX5) (rfl : vl G 10 0 = true) rfl rfl iX5 0 (by decide) rfl f0 rfl dX5_count_156 ?_
    refine z_get E (ci := 4) (N := 6) (C := RX4) (T := TX4) (vl_w (by decide) hw) rfl rfl iX4 1 (by decide) rfl f1 rfl dX5_count_159 ?_
    have hr_7 := hB.g 4 (P 0) 4 rfl
    refine z_get E (ci := 3) (N := 5) (C := RX3) (T := TX3) (vl_w (by decide) hw) rfl rfl iX3 4 (by decide) rfl f4 rfl dX5_count_162 ?_
    exact z_iret E Er0 dX5_count_165 (⟨by rw [if_neg (by omega), if_neg (by omega), if_neg (by omega), if_neg (by omega), if_neg (by omega), if_pos (by omega)], rfl, rfl⟩)
  by_cases q_1_6 : what = 6
  · skip
    refine z_tsI E 6 166 q_1_6 (by omega) dX5_count_1 (by decide) (by decide) rfl rfl ?_
    refine z_aload_n E dX5_count_166 0 rfl rfl ?_
    refine z_get E (ci := 5) (N := 4) (C := RX5) (T := TX5) (rfl : vl G 10 0 = true) rfl rfl iX5 0 (by decide) rfl f0 rfl dX5_count_167 ?_
    refine z_get E (ci := 4) (N := 6) (C := RX4) (T := TX4) (vl_w (by decide) hw) rfl rfl iX4 0 (by decide) rfl f3 rfl dX5_count_170 ?_
    refine z_get E (ci := 0) (N := 4) (C := RX0) (T := TX0) (vl_w (by decide) hw) rfl rfl iX0 2 (by decide) rfl f5 rfl dX5_count_173 ?_
    exact z_iret E Er0 dX5_count_176 (⟨by rw [if_neg (by omega), if_neg (by omega), if_neg (by omega), if_neg (by omega), if_neg (by omega), if_neg (by omega), if_pos (by omega)], rfl, rfl⟩)
  by_cases q_1_7 : what = 7
  · skip
    refine z_tsI E 7 177 q_1_7 (by omega) dX5_count_1 (by decide) (by decide) rfl rfl ?_
    refine z_aload_n E dX5_count_177 0 rfl rfl ?_
    refine z_get E (ci := 5) (N := 4) (C := RX5) (T := TX5) (rfl : vl G 10 0 = true) rfl rfl iX5 0 (by decide) rfl f0 rfl dX5_count_178 ?_
    refine z_get E (ci := 4) (N := 6) (C := RX4) (T := TX4) (vl_w (by decide) hw) rfl rfl iX4 0 (by decide) rfl f3 rfl dX5_count_181 ?_
    refine z_get E (ci := 0) (N := 4) (C := RX0) (T := TX0) (vl_w (by decide) hw) rfl rfl iX0 3 (by decide) rfl f6 rfl dX5_count_184 ?_
    exact z_iret E Er0 dX5_count_187 (⟨by rw [if_neg (by omega), if_neg (by omega), if_neg (by omega), if_neg (by omega), if_neg (by omega), if_neg (by omega), if_neg (by omega), if_pos (by omega)], rfl, rfl⟩)
  by_cases q_1_8 : what = 8
  · skip
    refine z_tsI E 8 188 q_1_8 (by omega) dX5_count_1 (by decide) (by decide) rfl rfl ?_
    refine z_aload_n E dX5_count_188 0 rfl rfl ?_
    refine z_get E (ci := 5) (N := 4) (C := RX5) (T := TX5) (rfl : vl G 10 0 = true) rfl rfl iX5 0 (by decide) rfl f0 rfl dX5_count_189 ?_
    refine z_get E (ci := 4) (N := 6) (C := RX4) (T := TX4) (vl_w (by decide) hw) rfl rfl iX4 5 (by decide) rfl f7 rfl dX5_count_192 ?_
    exact z_iret E Er0 dX5_count_195 (⟨by rw [if_neg (by omega), if_neg (by omega), if_neg (by omega), if_neg (by omega), if_neg (by omega), if_neg (by omega), if_neg (by omega), if_neg (by omega), if_pos (by omega)], rfl, rfl⟩)
  by_cases q_1_9 : what = 9
  · skip
    refine z_tsI E 9 196 q_1_9 (by omega) dX5_count_1 (by decide) (by decide) rfl rfl ?_
    refine z_aload_n E dX5_count_196 0 rfl rfl ?_
    refine z_get E (ci := 5) (N := 4) (C := RX5) (T := TX5) (rfl : vl G 10 0 = true) rfl rfl iX5 2 (by decide) rfl f8 rfl dX5_count_197 ?_
    have hr_8 := hB.g 11 0 2 rfl
    refine z_get E (ci := 1) (N := 3) (C := RX1) (T := TX1) (rfl : vl G 11 0 = true) rfl rfl iX1 2 (by decide) rfl f9 rfl dX5_count_200 ?_
    exact z_iret E Er0 dX5_count_203 (⟨by rw [if_neg (by omega), if_neg (by omega), if_neg (by omega), if_neg (by omega), if_neg (by omega), if_neg (by omega), if_neg (by omega), if_neg (by omega), if_neg (by omega), if_pos (by omega)], rfl, rfl⟩)
  by_cases q_1_10 : what = 10
  · skip
    refine z_tsI E 10 204 q_1_10 (by omega) dX5_count_1 (by decide) (by decide) rfl rfl ?_
    refine z_aload_n E dX5_count_204 0 rfl rfl ?_
    refine z_get E (ci := 5) (N := 4) (C := RX5) (T := TX5) (rfl : vl G 10 0 = true) rfl rfl iX5 3 (by decide) rfl f10 rfl dX5_count_205 ?_
    have hr_9 := hB.g 13 0 2 rfl
    refine z_get E (ci := 2) (N := 8) (C := RX2) (T := TX2) (rfl : vl G 13 0 = true) rfl rfl iX2 2 (by decide) rfl f11 rfl dX5_count_208 ?_
    exact z_iret E Er0 dX5_count_211 (⟨by rw [if_neg (by omega), if_neg (by omega), if_neg (by omega), if_neg (by omega), if_neg (by omega), if_neg (by omega), if_neg (by omega), if_neg (by omega), if_neg (by omega), if_neg (by omega), if_pos (by omega)], rfl, rfl⟩)
  by_cases q_1_11 : what = 11
  · skip
    refine z_tsI E 11 220 q_1_11 (by omega) dX5_count_1 (by decide) (by decide) rfl rfl ?_
    refine z_ldc E (-1000001) f12 rfl dX5_count_220 ?_
    exact z_iret E Er0 dX5_count_222 (⟨by rw [if_neg (by omega), if_neg (by omega), if_neg (by omega), if_neg (by omega), if_neg (by omega), if_neg (by omega), if_neg (by omega), if_neg (by omega), if_neg (by omega), if_neg (by omega), if_neg (by omega), if_neg (by omega)], rfl, rfl⟩)
  by_cases q_1_12 : what = 12
  · skip
    refine z_tsI E 12 220 q_1_12 (by omega) dX5_count_1 (by decide) (by decide) rfl rfl ?_
    refine z_ldc E (-1000001) f12 rfl dX5_count_220 ?_
    exact z_iret E Er0 dX5_count_222 (⟨by rw [if_neg (by omega), if_neg (by omega), if_neg (by omega), if_neg (by omega), if_neg (by omega), if_neg (by omega), if_neg (by omega), if_neg (by omega), if_neg (by omega), if_neg (by omega), if_neg (by omega), if_neg (by omega)], rfl, rfl⟩)
  by_cases q_1_13 : what = 13
  · skip
    refine z_tsI E 13 220 q_1_13 (by omega) dX5_count_1 (by decide) (by decide) rfl rfl ?_
    refine z_ldc E (-1000001) f12 rfl dX5_count_220 ?_
    exact z_iret E Er0 dX5_count_222 (⟨by rw [if_neg (by omega), if_neg (by omega), if_neg (by omega), if_neg (by omega), if_neg (by omega), if_neg (by omega), if_neg (by omega), if_neg (by omega), if_neg (by omega), if_neg (by omega), if_neg (by omega), if_neg (by omega)], rfl, rfl⟩)
  by_cases q_1_14 : what = 14
  · skip
    refine z_tsI E 14 220 q_1_14 (by omega) dX5_count_1 (by decide) (by decide) rfl rfl ?_
    refine z_ldc E (-1000001) f12 rfl dX5_count_220 ?_
    exact z_iret E Er0 dX5_count_222 (⟨by rw [if_neg (by omega), if_neg (by omega), if_neg (by omega), if_neg (by omega), if_neg (by omega), if_neg (by omega), if_neg (by omega), if_neg (by omega), if_neg (by omega), if_neg (by omega), if_neg (by omega), if_neg (by omega)], rfl, rfl⟩)
  by_cases q_1_15 : what = 15
  · skip
    refine z_tsI E 15 220 q_1_15 (by omega) dX5_count_1 (by decide) (by decide) rfl rfl ?_
    refine z_ldc E (-1000001) f12 rfl dX5_count_220 ?_
    exact z_iret E Er0 dX5_count_222 (⟨by rw [if_neg (by omega), if_neg (by omega), if_neg (by omega), if_neg (by omega), if_neg (by omega), if_neg (by omega), if_neg (by omega), if_neg (by omega), if_neg (by omega), if_neg (by omega), if_neg (by omega), if_neg (by omega)], rfl, rfl⟩)
  by_cases q_1_16 : what = 16
  · skip
    refine z_tsI E 16 220 q_1_16 (by omega) dX5_count_1 (by decide) (by decide) rfl rfl ?_
    refine z_ldc E (-1000001) f12 rfl dX5_count_220 ?_
    exact z_iret E Er0 dX5_count_222 (⟨by rw [if_neg (by omega), if_neg (by omega), if_neg (by omega), if_neg (by omega), if_neg (by omega), if_neg (by omega), if_neg (by omega), if_neg (by omega), if_neg (by omega), if_neg (by omega), if_neg (by omega), if_neg (by omega)], rfl, rfl⟩)
  by_cases q_1_17 : what = 17
  · skip
    refine z_tsI E 17 220 q_1_17 (by omega) dX5_count_1 (by decide) (by decide) rfl rfl ?_
    refine z_ldc E (-1000001) f12 rfl dX5_count_220 ?_
    exact z_iret E Er0 dX5_count_222 (⟨by rw [if_neg (by omega), if_neg (by omega), if_neg (by omega), if_neg (by omega), if_neg (by omega), if_neg (by omega), if_neg (by omega), if_neg (by omega), if_neg (by omega), if_neg (by omega), if_neg (by omega), if_neg (by omega)], rfl, rfl⟩)
  by_cases q_1_18 : what = 18
  · skip
    refine z_tsI E 18 220 q_1_18 (by omega) dX5_count_1 (by decide) (by decide) rfl rfl ?_
    refine z_ldc E (-1000001) f12 rfl dX5_count_220 ?_
    exact z_iret E Er0 dX5_count_222 (⟨by rw [if_neg (by omega), if_neg (by omega), if_neg (by omega), if_neg (by omega), if_neg (by omega), if_neg (by omega), if_neg (by omega), if_neg (by omega), if_neg (by omega), if_neg (by omega), if_neg (by omega), if_neg (by omega)], rfl, rfl⟩)
  by_cases q_1_19 : what = 19
  · skip
    refine z_tsI E 19 220 q_1_19 (by omega) dX5_count_1 (by decide) (by decide) rfl rfl ?_
    refine z_ldc E (-1000001) f12 rfl dX5_count_220 ?_
    exact z_iret E Er0 dX5_count_222 (⟨by rw [if_neg (by omega), if_neg (by omega), if_neg (by omega), if_neg (by omega), if_neg (by omega), if_neg (by omega), if_neg (by omega), if_neg (by omega), if_neg (by omega), if_neg (by omega), if_neg (by omega), if_neg (by omega)], rfl, rfl⟩)
  by_cases q_1_20 : what = 20
  · skip
    refine z_tsI E 20 212 q_1_20 (by omega) dX5_count_1 (by decide) (by decide) rfl rfl ?_
    refine z_aload_n E dX5_count_212 0 rfl rfl ?_
    refine z_get E (ci := 5) (N := 4) (C := RX5) (T := TX5) (rfl : vl G 10 0 = true) rfl rfl iX5 0 (by decide) rfl f0 rfl dX5_count_213 ?_
    have hr_10 := hB.g0 (P 0)
    refine z_get E (ci := 4) (N := 6) (C := RX4) (T := TX4) (vl_w (by decide) hw) rfl rfl iX4 4 (by decide) rfl f13 rfl dX5_count_216 ?_
    exact z_iret E Er0 dX5_count_219 (⟨by rw [if_neg (by omega), if_neg (by omega), if_neg (by omega), if_neg (by omega), if_neg (by omega), if_neg (by omega), if_neg (by omega), if_neg (by omega), if_neg (by omega), if_neg (by omega), if_neg (by omega), if_pos (by omega)], rfl, rfl⟩)
  refine z_tsO E 220 (by omega) dX5_count_1 (by omega) rfl ?_
  refine z_ldc E (-1000001) f12 rfl dX5_count_220 ?_
  exact z_iret E Er0 dX5_count_222 (⟨by rw [if_neg (by omega), if_neg (by omega), if_neg (by omega), if_neg (by omega), if_neg (by omega), if_neg (by omega), if_neg (by omega), if_neg (by omega), if_neg (by omega), if_neg (by omega), if_neg (by omega), if_neg (by omega)], rfl, rfl⟩)
