set_option maxHeartbeats 4000000 in
set_option maxRecDepth 100000 in
theorem kX3_slotOf (l : Launch) (G : Gl) (P : Nat → Nat) (V : Vt) (w : Nat) (number : Int) (hw : w < 6) (hB : BV V) (hn0 : 0 ≤ V 4 w 3) (hn1 : V 4 w 3 ≤ 16) (h1 : inR number) : Met l yX3_slotOf wsX3_slotOf ({ frames := 0, cells := 0, slots := 0, locals := 0 }) (va_Pc [.ref (ad G 4 w), .int (iI number)] (Sg G P V)) (Qk G mkI (dt (fnd (V 4 w 3) (fun k => V 5 w k = number)) P V)) 0 0 (mem G) := by
  refine z_met (cc := cX3_slotOf) (nL := 3) (ret := (some .int)) (own := RX3) (by decide +kernel) rfl rfl (Nat.le_of_ble_eq_true rfl) (L := [some (.ref (ad G 4 w)), some (.int (iI number)), none]) rfl ?_
  intro X E Er0
  have iX3 : ∀ x ∈ wsX30, x ∈ wsX3_slotOf := by decide +kernel
  have f0 : Cond.fieldLink RX3 21 "SharedStates$States" "size" "I" ∈ wsX3_slotOf := by decide +kernel
  have f1 : Cond.fieldLink RX3 9 "SharedStates$States" "numbers" "[I" ∈ wsX3_slotOf := by decide +kernel
  refine z_iconst E dX3_slotOf_0 ?_
  refine z_istore_n E dX3_slotOf_1 2 rfl (L' := [some (.ref (ad G 4 w)), some (.int (iI number)), some (.int (iI 0))]) (Nat.le_of_ble_eq_true rfl) rfl ?_
  have lp_2_1 : ∀ (fuel : Nat) (k : Int), (0 ≤ k) → (k ≤ V 4 w 3) → (∀ j, 0 ≤ j → j < k → ¬ (V 5 w j = number)) → (V 4 w 3 - k : Int).toNat < fuel → Kz X G P V 0 0 [some (.ref (ad G 4 w)), some (.int (iI number)), some (.int (iI k))] 2 [] := by
    intro fuel
    induction fuel with
    | zero => intro k hk0 hk1 hla hf_2; exact absurd hf_2 (Nat.not_lt_zero _)
    | succ fuel ih_2 =>
      intro k hk0 hk1 hla hf_2
      refine z_iload_n E dX3_slotOf_2 2 rfl rfl ?_
      refine z_aload_n E dX3_slotOf_3 0 rfl rfl ?_
      have hr_2 := hB.g 4 w 3 rfl
      refine z_get E (ci := 3) (N := 5) (C := RX3) (T := TX3) (vl_w (by decide) hw) rfl rfl iX3 3 (by decide) rfl f0 rfl dX3_slotOf_4 ?_
      refine z_icmp_ge E 28 dX3_slotOf_7 rfl (by omega) (by omega) (fun c_3 => ?_) (fun c_3 => ?_)
      · skip
        refine z_iconst E dX3_slotOf_28 ?_
        exact z_iret E Er0 dX3_slotOf_29 (by first | exact ⟨(fnd_y (by omega) (by omega) (by assumption) (by assumption)).symm, rfl, rfl⟩ | exact ⟨(fnd_n (fun j h0 h1 => hla j h0 (by omega))).symm, rfl, rfl⟩)
      · skip
        refine z_aload_n E dX3_slotOf_10 0 rfl rfl ?_
        refine z_get E (ci := 3) (N := 5) (C := RX3) (T := TX3) (vl_w (by decide) hw) rfl rfl iX3 0 (by decide) rfl f1 rfl dX3_slotOf_11 ?_
        refine z_iload_n E dX3_slotOf_14 2 rfl rfl ?_
        refine z_iald E (vl_w (by decide) hw) 16 rfl (by omega) (by omega) (by omega) dX3_slotOf_15 ?_
        have hr_4 := hB.g 5 w k rfl
        refine z_iload_n E dX3_slotOf_16 1 rfl rfl ?_
        refine z_icmp_ne E 22 dX3_slotOf_17 rfl (by omega) (by omega) (fun c_5 => ?_) (fun c_5 => ?_)
        · skip
          refine z_iinc E k dX3_slotOf_22 (L' := [some (.ref (ad G 4 w)), some (.int (iI number)), some (.int (iI (k + 1)))]) (Nat.le_of_ble_eq_true rfl) rfl rfl ?_
          refine z_goto E 2 dX3_slotOf_25 rfl ?_
          exact ih_2 (k + 1) (by omega) (by omega) (all_s hla (by assumption)) (by omega)
        · skip
          refine z_iload_n E dX3_slotOf_20 2 rfl rfl ?_
          exact z_iret E Er0 dX3_slotOf_21 (by first | exact ⟨(fnd_y (by omega) (by omega) (by assumption) (by assumption)).symm, rfl, rfl⟩ | exact ⟨(fnd_n (fun j h0 h1 => hla j h0 (by omega))).symm, rfl, rfl⟩)
  exact lp_2_1 ((V 4 w 3 - 0 : Int).toNat + 1) 0 (by omega) (by omega) all_0 (Nat.lt_succ_self _)

set_option maxHeartbeats 4000000 in
set_option maxRecDepth 100000 in
theorem kX3_numberOf (l : Launch) (G : Gl) (P : Nat → Nat) (V : Vt) (w : Nat) (slot : Int) (hw : w < 6) (hB : BV V) (hn0 : 0 ≤ V 4 w 3) (hn1 : V 4 w 3 ≤ 16) (h1 : inR slot) : Met l yX3_numberOf wsX3_numberOf ({ frames := 0, cells := 0, slots := 0, locals := 0 }) (va_Pc [.ref (ad G 4 w), .int (iI slot)] (Sg G P V)) (Qk G mkI (dt (nO (V 4 w 3) (V 5 w) slot) P V)) 0 0 (mem G) := by
  refine z_met (cc := cX3_numberOf) (nL := 2) (ret := (some .int)) (own := RX3) (by decide +kernel) rfl rfl (Nat.le_of_ble_eq_true rfl) (L := [some (.ref (ad G 4 w)), some (.int (iI slot))]) rfl ?_
  intro X E Er0
  have iX3 : ∀ x ∈ wsX30, x ∈ wsX3_numberOf := by decide +kernel
  have f0 : Cond.fieldLink RX3 21 "SharedStates$States" "size" "I" ∈ wsX3_numberOf := by decide +kernel
  have f1 : Cond.fieldLink RX3 9 "SharedStates$States" "numbers" "[I" ∈ wsX3_numberOf := by decide +kernel
  refine z_iload_n E dX3_numberOf_0 1 rfl rfl ?_
  refine z_if_lt E 21 dX3_numberOf_1 rfl (by omega) (fun c_1 => ?_) (fun c_1 => ?_)
  · skip
    refine z_iconst E dX3_numberOf_21 ?_
    exact z_iret E Er0 dX3_numberOf_22 (by first | exact ⟨(nO_t (by omega) (by omega)).symm, rfl, rfl⟩ | exact ⟨(nO_f (by omega)).symm, rfl, rfl⟩)
  · skip
    refine z_iload_n E dX3_numberOf_4 1 rfl rfl ?_
    refine z_aload_n E dX3_numberOf_5 0 rfl rfl ?_
    have hr_2 := hB.g 4 w 3 rfl
    refine z_get E (ci := 3) (N := 5) (C := RX3) (T := TX3) (vl_w (by decide) hw) rfl rfl iX3 3 (by decide) rfl f0 rfl dX3_numberOf_6 ?_
    refine z_icmp_ge E 21 dX3_numberOf_9 rfl (by omega) (by omega) (fun c_3 => ?_) (fun c_3 => ?_)
    · skip
      refine z_iconst E dX3_numberOf_21 ?_
      exact z_iret E Er0 dX3_numberOf_22 (by first | exact ⟨(nO_t (by omega) (by omega)).symm, rfl, rfl⟩ | exact ⟨(nO_f (by omega)).symm, rfl, rfl⟩)
    · skip
      refine z_aload_n E dX3_numberOf_12 0 rfl rfl ?_
      refine z_get E (ci := 3) (N := 5) (C := RX3) (T := TX3) (vl_w (by decide) hw) rfl rfl iX3 0 (by decide) rfl f1 rfl dX3_numberOf_13 ?_
      refine z_iload_n E dX3_numberOf_16 1 rfl rfl ?_
      refine z_iald E (vl_w (by decide) hw) 16 rfl (by omega) (by omega) (by omega) dX3_numberOf_17 ?_
      have hr_4 := hB.g 5 w slot rfl
      refine z_goto E 22 dX3_numberOf_18 rfl ?_
      exact z_iret E Er0 dX3_numberOf_22 (by first | exact ⟨(nO_t (by omega) (by omega)).symm, rfl, rfl⟩ | exact ⟨(nO_f (by omega)).symm, rfl, rfl⟩)

set_option maxHeartbeats 4000000 in
set_option maxRecDepth 100000 in
theorem kX3_parentOf (l : Launch) (G : Gl) (P : Nat → Nat) (V : Vt) (w : Nat) (slot : Int) (hw : w < 6) (hB : BV V) (hn0 : 0 ≤ V 4 w 3) (hn1 : V 4 w 3 ≤ 16) (h1 : 0 ≤ slot) (h2 : slot < V 4 w 3) : Met l yX3_parentOf wsX3_parentOf ({ frames := 0, cells := 0, slots := 0, locals := 0 }) (va_Pc [.ref (ad G 4 w), .int (iI slot)] (Sg G P V)) (Qk G mkI (dt (V 6 w slot) P V)) 0 0 (mem G) := by
  refine z_met (cc := cX3_parentOf) (nL := 2) (ret := (some .int)) (own := RX3) (by decide +kernel) rfl rfl (Nat.le_of_ble_eq_true rfl) (L := [some (.ref (ad G 4 w)), some (.int (iI slot))]) rfl ?_
  intro X E Er0
  have iX3 : ∀ x ∈ wsX30, x ∈ wsX3_parentOf := by decide +kernel
  have f0 : Cond.fieldLink RX3 21 "SharedStates$States" "size" "I" ∈ wsX3_parentOf := by decide +kernel
  have f1 : Cond.fieldLink RX3 15 "SharedStates$States" "parents" "[I" ∈ wsX3_parentOf := by decide +kernel
  refine z_iload_n E dX3_parentOf_0 1 rfl rfl ?_
  refine z_if_lt E 21 dX3_parentOf_1 rfl (by omega) (fun c_1 => ?_) (fun c_1 => ?_)
  · skip
    refine z_iconst E dX3_parentOf_21 ?_
    exact z_iret E Er0 dX3_parentOf_22 (by first | exact ⟨rfl, rfl, rfl⟩ | exact ⟨by omega, rfl, rfl⟩ | (exfalso; omega))
  · skip
    refine z_iload_n E dX3_parentOf_4 1 rfl rfl ?_
    refine z_aload_n E dX3_parentOf_5 0 rfl rfl ?_
    have hr_2 := hB.g 4 w 3 rfl
    refine z_get E (ci := 3) (N := 5) (C := RX3) (T := TX3) (vl_w (by decide) hw) rfl rfl iX3 3 (by decide) rfl f0 rfl dX3_parentOf_6 ?_
    refine z_icmp_ge E 21 dX3_parentOf_9 rfl (by omega) (by omega) (fun c_3 => ?_) (fun c_3 => ?_)
    · skip
      refine z_iconst E dX3_parentOf_21 ?_
      exact z_iret E Er0 dX3_parentOf_22 (by first | exact ⟨rfl, rfl, rfl⟩ | exact ⟨by omega, rfl, rfl⟩ | (exfalso; omega))
    · skip
      refine z_aload_n E dX3_parentOf_12 0 rfl rfl ?_
      refine z_get E (ci := 3) (N := 5) (C := RX3) (T := TX3) (vl_w (by decide) hw) rfl rfl iX3 1 (by decide) rfl f1 rfl dX3_parentOf_13 ?_
      refine z_iload_n E dX3_parentOf_16 1 rfl rfl ?_
      refine z_iald E (vl_w (by decide) hw) 16 rfl (by omega) (by omega) (by omega) dX3_parentOf_17 ?_
      have hr_4 := hB.g 6 w slot rfl
      refine z_goto E 22 dX3_parentOf_18 rfl ?_
      exact z_iret E Er0 dX3_parentOf_22 (by first | exact ⟨rfl, rfl, rfl⟩ | exact ⟨by omega, rfl, rfl⟩ | (exfalso; omega))

set_option maxHeartbeats 4000000 in
set_option maxRecDepth 100000 in
theorem kX3_parentSlot (l : Launch) (G : Gl) (P : Nat → Nat) (V : Vt) (w : Nat) (slot : Int) (hw : w < 6) (hB : BV V) (hn0 : 0 ≤ V 4 w 3) (hn1 : V 4 w 3 ≤ 16) (h1 : 0 ≤ slot) (h2 : slot < V 4 w 3) : Met l yX3_parentSlot wsX3_parentSlot ({ frames := 1, cells := 0, slots := 0, locals := 22 }) (va_Pc [.ref (ad G 4 w), .int (iI slot)] (Sg G P V)) (Qk G mkI (dt (fnd (V 4 w 3) (fun k => V 5 w k = V 6 w slot)) P V)) 0 0 (mem G) := by
  refine z_met (cc := cX3_parentSlot) (nL := 2) (ret := (some .int)) (own := RX3) (by decide +kernel) rfl rfl (Nat.le_of_ble_eq_true rfl) (L := [some (.ref (ad G 4 w)), some (.int (iI slot))]) rfl ?_
  intro X E Er0
  refine z_aload_n E dX3_parentSlot_0 0 rfl rfl ?_
  refine z_aload_n E dX3_parentSlot_1 0 rfl rfl ?_
  refine z_iload_n E dX3_parentSlot_2 1 rfl rfl ?_
  refine z_callV E (ci := 3) (N := 5) (C := RX3) (T := TX3) (n := 1) (st := [.ref (ad G 4 w)]) (vl_w (by decide) hw) rfl rfl [.int (iI slot)] (kX3_parentOf l G P V w slot hw hB (by omega) (by omega) (by omega) (by omega)) gX3_parentSlot_X3_parentOf rfl ⟨rfl, rfl⟩ (by decide +kernel) ⟨Nat.le_of_ble_eq_true rfl, Nat.le_of_ble_eq_true rfl⟩ rfl rfl (Nat.le_of_ble_eq_true rfl) rfl dX3_parentSlot_3 (z_dtI ?_)
  have hr_p := hB.g 6 w slot rfl
  refine z_callV E (ci := 3) (N := 5) (C := RX3) (T := TX3) (n := 1) (st := []) (vl_w (by decide) hw) rfl rfl [.int (iI (V 6 w slot))] (kX3_slotOf l G P V w (V 6 w slot) hw hB (by omega) (by omega) (by omega)) gX3_parentSlot_X3_slotOf rfl ⟨rfl, rfl⟩ (by decide +kernel) ⟨Nat.le_of_ble_eq_true rfl, Nat.le_of_ble_eq_true rfl⟩ rfl rfl (Nat.le_of_ble_eq_true rfl) rfl dX3_parentSlot_6 (z_dtI ?_)
  have h_2a := fnd_bd (V 4 w 3) (fun k => V 5 w k = (V 6 w slot)) (by omega)
  exact z_iret E Er0 dX3_parentSlot_9 (by first | exact ⟨rfl, rfl, rfl⟩ | exact ⟨by omega, rfl, rfl⟩ | (exfalso; omega))

set_option maxHeartbeats 4000000 in
set_option maxRecDepth 100000 in
theorem kX3_block (l : Launch) (G : Gl) (P : Nat → Nat) (V : Vt) (w : Nat) (slot : Int) (place : Int) (hw : w < 6) (hB : BV V) (hn0 : 0 ≤ V 4 w 3) (hn1 : V 4 w 3 ≤ 16) (hL : ∀ j, 0 ≤ V 7 w j ∧ V 7 w j < 40) (h1 : 0 ≤ slot) (h2 : slot < V 4 w 3) (h3 : 0 ≤ place) (h4 : place < 6) : Met l yX3_block wsX3_block ({ frames := 0, cells := 0, slots := 0, locals := 0 }) (va_Pc [.ref (ad G 4 w), .int (iI slot), .int (iI place)] (Sg G P V)) (Qk G mkI (dt (V 7 w (slot * 6 + place)) P V)) 0 0 (mem G) := by
  refine z_met (cc := cX3_block) (nL := 4) (ret := (some .int)) (own := RX3) (by decide +kernel) rfl rfl (Nat.le_of_ble_eq_true rfl) (L := [some (.ref (ad G 4 w)), some (.int (iI slot)), some (.int (iI place)), none]) rfl ?_
  intro X E Er0
  have iX3 : ∀ x ∈ wsX30, x ∈ wsX3_block := by decide +kernel
  have f0 : Cond.fieldLink RX3 21 "SharedStates$States" "size" "I" ∈ wsX3_block := by decide +kernel
  have f1 : Cond.fieldLink RX3 18 "SharedStates$States" "places" "[I" ∈ wsX3_block := by decide +kernel
  refine z_iload_n E dX3_block_0 1 rfl rfl ?_
  refine z_if_lt E 26 dX3_block_1 rfl (by omega) (fun c_1 => ?_) (fun c_1 => ?_)
  · skip
    refine z_iconst E dX3_block_26 ?_
    refine z_istore_n E dX3_block_27 3 rfl (L' := [some (.ref (ad G 4 w)), some (.int (iI slot)), some (.int (iI place)), some (.int (iI 0))]) (Nat.le_of_ble_eq_true rfl) rfl ?_
    refine z_iload_n E dX3_block_28 3 rfl rfl ?_
    refine z_if_eq E 46 dX3_block_29 rfl (by omega) (fun _ => ?_) (fun c => absurd c (by decide))
    refine z_iconst E dX3_block_46 ?_
    exact z_iret E Er0 dX3_block_47 (by first | exact ⟨rfl, rfl, rfl⟩ | exact ⟨by omega, rfl, rfl⟩ | (exfalso; omega))
  · skip
    refine z_iload_n E dX3_block_4 1 rfl rfl ?_
    refine z_aload_n E dX3_block_5 0 rfl rfl ?_
    have hr_3 := hB.g 4 w 3 rfl
    refine z_get E (ci := 3) (N := 5) (C := RX3) (T := TX3) (vl_w (by decide) hw) rfl rfl iX3 3 (by decide) rfl f0 rfl dX3_block_6 ?_
    refine z_icmp_ge E 26 dX3_block_9 rfl (by omega) (by omega) (fun c_4 => ?_) (fun c_4 => ?_)
    · skip
      refine z_iconst E dX3_block_26 ?_
      refine z_istore_n E dX3_block_27 3 rfl (L' := [some (.ref (ad G 4 w)), some (.int (iI slot)), some (.int (iI place)), some (.int (iI 0))]) (Nat.le_of_ble_eq_true rfl) rfl ?_
      refine z_iload_n E dX3_block_28 3 rfl rfl ?_
      refine z_if_eq E 46 dX3_block_29 rfl (by omega) (fun _ => ?_) (fun c => absurd c (by decide))
      refine z_iconst E dX3_block_46 ?_
      exact z_iret E Er0 dX3_block_47 (by first | exact ⟨rfl, rfl, rfl⟩ | exact ⟨by omega, rfl, rfl⟩ | (exfalso; omega))
    · skip
      refine z_iload_n E dX3_block_12 2 rfl rfl ?_
      refine z_if_lt E 26 dX3_block_13 rfl (by omega) (fun c_6 => ?_) (fun c_6 => ?_)
      · skip
        refine z_iconst E dX3_block_26 ?_
        refine z_istore_n E dX3_block_27 3 rfl (L' := [some (.ref (ad G 4 w)), some (.int (iI slot)), some (.int (iI place)), some (.int (iI 0))]) (Nat.le_of_ble_eq_true rfl) rfl ?_
        refine z_iload_n E dX3_block_28 3 rfl rfl ?_
        refine z_if_eq E 46 dX3_block_29 rfl (by omega) (fun _ => ?_) (fun c => absurd c (by decide))
        refine z_iconst E dX3_block_46 ?_
        exact z_iret E Er0 dX3_block_47 (by first | exact ⟨rfl, rfl, rfl⟩ | exact ⟨by omega, rfl, rfl⟩ | (exfalso; omega))
      · skip
        refine z_iload_n E dX3_block_16 2 rfl rfl ?_
        refine z_bipush E dX3_block_17 rfl ?_
        refine z_icmp_ge E 26 dX3_block_19 rfl (by omega) (by omega) (fun c_8 => ?_) (fun c_8 => ?_)
        · skip
          refine z_iconst E dX3_block_26 ?_
          refine z_istore_n E dX3_block_27 3 rfl (L' := [some (.ref (ad G 4 w)), some (.int (iI slot)), some (.int (iI place)), some (.int (iI 0))]) (Nat.le_of_ble_eq_true rfl) rfl ?_
          refine z_iload_n E dX3_block_28 3 rfl rfl ?_
          refine z_if_eq E 46 dX3_block_29 rfl (by omega) (fun _ => ?_) (fun c => absurd c (by decide))
          refine z_iconst E dX3_block_46 ?_
          exact z_iret E Er0 dX3_block_47 (by first | exact ⟨rfl, rfl, rfl⟩ | exact ⟨by omega, rfl, rfl⟩ | (exfalso; omega))
        · skip
          refine z_iconst E dX3_block_22 ?_
          refine z_goto E 27 dX3_block_23 rfl ?_
          refine z_istore_n E dX3_block_27 3 rfl (L' := [some (.ref (ad G 4 w)), some (.int (iI slot)), some (.int (iI place)), some (.int (iI 1))]) (Nat.le_of_ble_eq_true rfl) rfl ?_
          refine z_iload_n E dX3_block_28 3 rfl rfl ?_
          refine z_if_eq E 46 dX3_block_29 rfl (by omega) (fun c => absurd c (by decide)) (fun _ => ?_)
          refine z_aload_n E dX3_block_32 0 rfl rfl ?_
          refine z_get E (ci := 3) (N := 5) (C := RX3) (T := TX3) (vl_w (by decide) hw) rfl rfl iX3 2 (by decide) rfl f1 rfl dX3_block_33 ?_
          refine z_iload_n E dX3_block_36 1 rfl rfl ?_
          refine z_bipush E dX3_block_37 rfl ?_
          refine z_imul E dX3_block_39 ?_
          refine z_iload_n E dX3_block_40 2 rfl rfl ?_
          refine z_iadd E dX3_block_41 ?_
          refine z_iald E (vl_w (by decide) hw) 96 rfl (by omega) (by omega) (by omega) dX3_block_42 ?_
          have hr_11 := hB.g 7 w ((slot * 6) + place) rfl
          refine z_goto E 47 dX3_block_43 rfl ?_
          exact z_iret E Er0 dX3_block_47 (by first | exact ⟨rfl, rfl, rfl⟩ | exact ⟨by omega, rfl, rfl⟩ | (exfalso; omega))

set_option maxHeartbeats 4000000 in
set_option maxRecDepth 100000 in
theorem kX3_add (l : Launch) (G : Gl) (P : Nat → Nat) (V : Vt) (w : Nat) (parent : Int) (hw : w < 6) (hB : BV V) (hn0 : 0 ≤ V 4 w 3) (hn1 : V 4 w 3 ≤ 16) (h1 : V 4 w 3 < 16) (h2 : inR (V 4 w 4 + 1)) (h3 : inR parent) : Met l yX3_add wsX3_add ({ frames := 0, cells := 0, slots := 0, locals := 0 }) (va_Pc [.ref (ad G 4 w), .int (iI parent)] (Sg G P V)) (Qk G mkI (fun r P' V' => r = V 4 w 4 ∧ P' = P ∧ BV V' ∧ V' = up (up (up V 5 w (updI (V 5 w) (V 4 w 3) (V 4 w 4))) 6 w (updI (V 6 w) (V 4 w 3) parent)) 4 w (updI (updI (V 4 w) 3 (V 4 w 3 + 1)) 4 (V 4 w 4 + 1)))) 0 0 (mem G) := by
  refine z_met (cc := cX3_add) (nL := 2) (ret := (some .int)) (own := RX3) (by decide +kernel) rfl rfl (Nat.le_of_ble_eq_true rfl) (L := [some (.ref (ad G 4 w)), some (.int (iI parent))]) rfl ?_
  intro X E Er0
  have iX3 : ∀ x ∈ wsX30, x ∈ wsX3_add := by decide +kernel
  have f0 : Cond.fieldLink RX3 9 "SharedStates$States" "numbers" "[I" ∈ wsX3_add := by decide +kernel
  have f1 : Cond.fieldLink RX3 21 "SharedStates$States" "size" "I" ∈ wsX3_add := by decide +kernel
  have f2 : Cond.fieldLink RX3 25 "SharedStates$States" "made" "I" ∈ wsX3_add := by decide +kernel
  have f3 : Cond.fieldLink RX3 15 "SharedStates$States" "parents" "[I" ∈ wsX3_add := by decide +kernel
  refine z_aload_n E dX3_add_0 0 rfl rfl ?_
  refine z_get E (ci := 3) (N := 5) (C := RX3) (T := TX3) (vl_w (by decide) hw) rfl rfl iX3 0 (by decide) rfl f0 rfl dX3_add_1 ?_
  refine z_aload_n E dX3_add_4 0 rfl rfl ?_
  have hr_1 := hB.g 4 w 3 rfl
  refine z_get E (ci := 3) (N := 5) (C := RX3) (T := TX3) (vl_w (by decide) hw) rfl rfl iX3 3 (by decide) rfl f1 rfl dX3_add_5 ?_
  refine z_aload_n E dX3_add_8 0 rfl rfl ?_
  have hr_2 := hB.g 4 w 4 rfl
  refine z_get E (ci := 3) (N := 5) (C := RX3) (T := TX3) (vl_w (by decide) hw) rfl rfl iX3 4 (by decide) rfl f2 rfl dX3_add_9 ?_
  refine z_iast E (vl_w (by decide) hw) 16 (fun _ => rfl) (by omega) (by omega) (by omega) dX3_add_12 ?_
  obtain ⟨V3, hV3⟩ : ∃ Z : Vt, Z = up V 5 w (updI (V 5 w) (V 4 w 3) (V 4 w 4)) := ⟨_, rfl⟩
  rw [← hV3]
  have hB3 : BV V3 := hV3 ▸ BV_up hB (by intro _; omega)
  have g3_3 : V3 4 w 3 = V 4 w 3 := by rw [hV3]; rfl
  have g4_3 : V3 4 w 4 = V 4 w 4 := by rw [hV3]; rfl
  refine z_aload_n E dX3_add_13 0 rfl rfl ?_
  refine z_get E (ci := 3) (N := 5) (C := RX3) (T := TX3) (vl_w (by decide) hw) rfl rfl iX3 1 (by decide) rfl f3 rfl dX3_add_14 ?_
  refine z_aload_n E dX3_add_17 0 rfl rfl ?_
  have hr_4 := hB3.g 4 w 3 rfl
  refine z_get E (ci := 3) (N := 5) (C := RX3) (T := TX3) (vl_w (by decide) hw) rfl rfl iX3 3 (by decide) rfl f1 rfl dX3_add_18 ?_
  refine z_iload_n E dX3_add_21 1 rfl rfl ?_
  refine z_iast E (vl_w (by decide) hw) 16 (fun _ => rfl) (by omega) (by omega) (by omega) dX3_add_22 ?_
  obtain ⟨V5, hV5⟩ : ∃ Z : Vt, Z = up V3 6 w (updI (V3 6 w) (V3 4 w 3) parent) := ⟨_, rfl⟩
  rw [← hV5]
  have hB5 : BV V5 := hV5 ▸ BV_up hB3 (by intro _; omega)
  have g3_5 : V5 4 w 3 = V 4 w 3 := by rw [hV5, hV3]; rfl
  have g4_5 : V5 4 w 4 = V 4 w 4 := by rw [hV5, hV3]; rfl
  refine z_aload_n E dX3_add_23 0 rfl rfl ?_
  refine z_dup E dX3_add_24 rfl ?_
  have hr_6 := hB5.g 4 w 3 rfl
  refine z_get E (ci := 3) (N := 5) (C := RX3) (T := TX3) (vl_w (by decide) hw) rfl rfl iX3 3 (by decide) rfl f1 rfl dX3_add_25 ?_
  refine z_iconst E dX3_add_28 ?_
  refine z_iadd E dX3_add_29 ?_
  refine z_put E (ci := 3) (N := 5) (C := RX3) (T := TX3) (ty := .int) (vl_w (by decide) hw) (updI (V5 4 w) 3 ((V5 4 w 3) + 1)) rfl rfl iX3 tyX3 tyX3_ok nmX3 3 (by decide) rfl f1 rfl rfl rfl rfl (Nat.le_of_ble_eq_true rfl) rfl dX3_add_30 ?_
  obtain ⟨V7, hV7⟩ : ∃ Z : Vt, Z = up V5 4 w (updI (V5 4 w) 3 ((V5 4 w 3) + 1)) := ⟨_, rfl⟩
  rw [← hV7]
  have hB7 : BV V7 := hV7 ▸ BV_up hB5 (by intro _; omega)
  have g3_7 : V7 4 w 3 = V 4 w 3 + 1 := by rw [hV7, hV5, hV3]; simp [up, updI]
  have g4_7 : V7 4 w 4 = V 4 w 4 := by rw [hV7, hV5, hV3]; simp [up, updI]
  refine z_aload_n E dX3_add_33 0 rfl rfl ?_
  refine z_dup E dX3_add_34 rfl ?_
  have hr_8 := hB7.g 4 w 4 rfl
  refine z_get E (ci := 3) (N := 5) (C := RX3) (T := TX3) (vl_w (by decide) hw) rfl rfl iX3 4 (by decide) rfl f2 rfl dX3_add_35 ?_
  refine z_iconst E dX3_add_38 ?_
  refine z_iadd E dX3_add_39 ?_
  refine z_put E (ci := 3) (N := 5) (C := RX3) (T := TX3) (ty := .int) (vl_w (by decide) hw) (updI (V7 4 w) 4 ((V7 4 w 4) + 1)) rfl rfl iX3 tyX3 tyX3_ok nmX3 4 (by decide) rfl f2 rfl rfl rfl rfl (Nat.le_of_ble_eq_true rfl) rfl dX3_add_40 ?_
  obtain ⟨V9, hV9⟩ : ∃ Z : Vt, Z = up V7 4 w (updI (V7 4 w) 4 ((V7 4 w 4) + 1)) := ⟨_, rfl⟩
  rw [← hV9]
  have hB9 : BV V9 := hV9 ▸ BV_up hB7 (by intro _; omega)
  have g4_9 : V9 4 w 4 = V 4 w 4 + 1 := by rw [hV9, hV7, hV5, hV3]; simp [up, updI]
  refine z_aload_n E dX3_add_43 0 rfl rfl ?_
  have hr_10 := hB9.g 4 w 4 rfl
  refine z_get E (ci := 3) (N := 5) (C := RX3) (T := TX3) (vl_w (by decide) hw) rfl rfl iX3 4 (by decide) rfl f2 rfl dX3_add_44 ?_
  refine z_iconst E dX3_add_47 ?_
  refine z_isub E dX3_add_48 ?_
  exact z_iret E Er0 dX3_add_49 (⟨by omega, rfl, hB9, by rw [hV9, hV7, hV5, hV3]; simp [up_s, up_r]; exact upup _ _ _ _ _⟩)

set_option maxHeartbeats 4000000 in
set_option maxRecDepth 100000 in
theorem kX3_childrenOf (l : Launch) (G : Gl) (P : Nat → Nat) (V : Vt) (w : Nat) (slot : Int) (hw : w < 6) (hB : BV V) (hn0 : 0 ≤ V 4 w 3) (hn1 : V 4 w 3 ≤ 16) (h1 : 0 ≤ slot) (h2 : slot < V 4 w 3) : Met l yX3_childrenOf wsX3_childrenOf ({ frames := 1, cells := 0, slots := 0, locals := 21 }) (va_Pc [.ref (ad G 4 w), .int (iI slot)] (Sg G P V)) (Qk G mkI (dt (sm (V 4 w 3) (fun j => b2i (slot < j ∧ V 6 w j = V 5 w slot))) P V)) 0 0 (mem G) := by
  refine z_met (cc := cX3_childrenOf) (nL := 4) (ret := (some .int)) (own := RX3) (by decide +kernel) rfl rfl (Nat.le_of_ble_eq_true rfl) (L := [some (.ref (ad G 4 w)), some (.int (iI slot)), none, none]) rfl ?_
  intro X E Er0
  have iX3 : ∀ x ∈ wsX30, x ∈ wsX3_childrenOf := by decide +kernel
  have f0 : Cond.fieldLink RX3 21 "SharedStates$States" "size" "I" ∈ wsX3_childrenOf := by decide +kernel
  have f1 : Cond.fieldLink RX3 15 "SharedStates$States" "parents" "[I" ∈ wsX3_childrenOf := by decide +kernel
  refine z_iconst E dX3_childrenOf_0 ?_
  refine z_istore_n E dX3_childrenOf_1 2 rfl (L' := [some (.ref (ad G 4 w)), some (.int (iI slot)), some (.int (iI 0)), none]) (Nat.le_of_ble_eq_true rfl) rfl ?_
  refine z_iload_n E dX3_childrenOf_2 1 rfl rfl ?_
  refine z_iconst E dX3_childrenOf_3 ?_
  refine z_iadd E dX3_childrenOf_4 ?_
  refine z_istore_n E dX3_childrenOf_5 3 rfl (L' := [some (.ref (ad G 4 w)), some (.int (iI slot)), some (.int (iI 0)), some (.int (iI (slot + 1)))]) (Nat.le_of_ble_eq_true rfl) rfl ?_
  have lp_6_1 : ∀ (fuel : Nat) (m : Int) (k : Int), (slot < k) → (k ≤ V 4 w 3) → (m = sm k (fun j => b2i (slot < j ∧ V 6 w j = V 5 w slot))) → (V 4 w 3 - k : Int).toNat < fuel → Kz X G P V 0 0 [some (.ref (ad G 4 w)), some (.int (iI slot)), some (.int (iI m)), some (.int (iI k))] 6 [] := by
    intro fuel
    induction fuel with
    | zero => intro m k hk0 hk1 hs hf_6; exact absurd hf_6 (Nat.not_lt_zero _)
    | succ fuel ih_6 =>
      intro m k hk0 hk1 hs hf_6
      refine z_iload_n E dX3_childrenOf_6 3 rfl rfl ?_
      refine z_aload_n E dX3_childrenOf_7 0 rfl rfl ?_
      have hr_2 := hB.g 4 w 3 rfl
      refine z_get E (ci := 3) (N := 5) (C := RX3) (T := TX3) (vl_w (by decide) hw) rfl rfl iX3 3 (by decide) rfl f0 rfl dX3_childrenOf_8 ?_
      refine z_icmp_ge E 42 dX3_childrenOf_11 rfl (by omega) (by omega) (fun c_3 => ?_) (fun c_3 => ?_)
      · skip
        refine z_iload_n E dX3_childrenOf_42 2 rfl rfl ?_
        exact z_iret E Er0 dX3_childrenOf_43 (⟨by rw [hs, show k = V 4 w 3 by omega], rfl, rfl⟩)
      · skip
        refine z_iload_n E dX3_childrenOf_14 2 rfl rfl ?_
        refine z_aload_n E dX3_childrenOf_15 0 rfl rfl ?_
        refine z_get E (ci := 3) (N := 5) (C := RX3) (T := TX3) (vl_w (by decide) hw) rfl rfl iX3 1 (by decide) rfl f1 rfl dX3_childrenOf_16 ?_
        refine z_iload_n E dX3_childrenOf_19 3 rfl rfl ?_
        refine z_iald E (vl_w (by decide) hw) 16 rfl (by omega) (by omega) (by omega) dX3_childrenOf_20 ?_
        have hr_4 := hB.g 6 w k rfl
        refine z_aload_n E dX3_childrenOf_21 0 rfl rfl ?_
        refine z_iload_n E dX3_childrenOf_22 1 rfl rfl ?_
        refine z_callV E (ci := 3) (N := 5) (C := RX3) (T := TX3) (n := 1) (st := [.int (iI (V 6 w k)), .int (iI m)]) (vl_w (by decide) hw) rfl rfl [.int (iI slot)] (kX3_numberOf l G P V w slot hw hB (by omega) (by omega) (by omega)) gX3_childrenOf_X3_numberOf rfl ⟨rfl, rfl⟩ (by decide +kernel) ⟨Nat.le_of_ble_eq_true rfl, Nat.le_of_ble_eq_true rfl⟩ rfl rfl (Nat.le_of_ble_eq_true rfl) rfl dX3_childrenOf_23 (z_dtI ?_)
        have h_5a := nO_R hB w (V 4 w 3) slot
        rw [nO_t h1 h2]
        have hr_s := hB.g 5 w slot rfl
        refine z_icmp_ne E 33 dX3_childrenOf_26 rfl (by omega) (by omega) (fun c_6 => ?_) (fun c_6 => ?_)
        · skip
          refine z_iconst E dX3_childrenOf_33 ?_
          refine z_iadd E dX3_childrenOf_34 ?_
          refine z_istore_n E dX3_childrenOf_35 2 rfl (L' := [some (.ref (ad G 4 w)), some (.int (iI slot)), some (.int (iI (m + 0))), some (.int (iI k))]) (Nat.le_of_ble_eq_true rfl) rfl ?_
          refine z_iinc E k dX3_childrenOf_36 (L' := [some (.ref (ad G 4 w)), some (.int (iI slot)), some (.int (iI (m + 0))), some (.int (iI (k + 1)))]) (Nat.le_of_ble_eq_true rfl) rfl rfl ?_
          refine z_goto E 6 dX3_childrenOf_39 rfl ?_
          exact ih_6 (m + 0) (k + 1) (by omega) (by omega) (by first | exact smb_t hs (by omega) (by first | assumption | omega) | exact smb_f hs (by omega) (by first | assumption | omega) | exact smb_f0 hs (by omega) (by first | assumption | omega)) (by omega)
        · skip
          refine z_iconst E dX3_childrenOf_29 ?_
          refine z_goto E 34 dX3_childrenOf_30 rfl ?_
          refine z_iadd E dX3_childrenOf_34 ?_
          refine z_istore_n E dX3_childrenOf_35 2 rfl (L' := [some (.ref (ad G 4 w)), some (.int (iI slot)), some (.int (iI (m + 1))), some (.int (iI k))]) (Nat.le_of_ble_eq_true rfl) rfl ?_
          refine z_iinc E k dX3_childrenOf_36 (L' := [some (.ref (ad G 4 w)), some (.int (iI slot)), some (.int (iI (m + 1))), some (.int (iI (k + 1)))]) (Nat.le_of_ble_eq_true rfl) rfl rfl ?_
          refine z_goto E 6 dX3_childrenOf_39 rfl ?_
          exact ih_6 (m + 1) (k + 1) (by omega) (by omega) (by first | exact smb_t hs (by omega) (by first | assumption | omega) | exact smb_f hs (by omega) (by first | assumption | omega) | exact smb_f0 hs (by omega) (by first | assumption | omega)) (by omega)
  exact lp_6_1 ((V 4 w 3 - (slot + 1) : Int).toNat + 1) 0 (slot + 1) (by omega) (by omega) (sm_z (fun j _ h => b2i_f (by omega))).symm (Nat.lt_succ_self _)

set_option maxHeartbeats 4000000 in
set_option maxRecDepth 100000 in
theorem kX3_stepsFrom (l : Launch) (G : Gl) (P : Nat → Nat) (V : Vt) (w : Nat) (slot : Int) (hw : w < 6) (hB : BV V) (hn0 : 0 ≤ V 4 w 3) (hn1 : V 4 w 3 ≤ 16) (h1 : 0 ≤ slot) (h2 : slot < V 4 w 3) : Met l yX3_stepsFrom wsX3_stepsFrom ({ frames := 2, cells := 0, slots := 0, locals := 43 }) (va_Pc [.ref (ad G 4 w), .int (iI slot)] (Sg G P V)) (Qk G mkI (dt (itS (pS (V 4 w 3) (V 5 w) (V 6 w)) 16 slot) P V)) 0 0 (mem G) := by
  refine z_met (cc := cX3_stepsFrom) (nL := 5) (ret := (some .int)) (own := RX3) (by decide +kernel) rfl rfl (Nat.le_of_ble_eq_true rfl) (L := [some (.ref (ad G 4 w)), some (.int (iI slot)), none, none, none]) rfl ?_
  intro X E Er0
  refine z_iconst E dX3_stepsFrom_0 ?_
  refine z_istore_n E dX3_stepsFrom_1 2 rfl (L' := [some (.ref (ad G 4 w)), some (.int (iI slot)), some (.int (iI 0)), none, none]) (Nat.le_of_ble_eq_true rfl) rfl ?_
  refine z_iload_n E dX3_stepsFrom_2 1 rfl rfl ?_
  refine z_istore_n E dX3_stepsFrom_3 3 rfl (L' := [some (.ref (ad G 4 w)), some (.int (iI slot)), some (.int (iI 0)), some (.int (iI slot)), none]) (Nat.le_of_ble_eq_true rfl) rfl ?_
  refine z_iconst E dX3_stepsFrom_4 ?_
  refine z_istore E dX3_stepsFrom_5 (L' := [some (.ref (ad G 4 w)), some (.int (iI slot)), some (.int (iI 0)), some (.int (iI slot)), some (.int (iI 0))]) (Nat.le_of_ble_eq_true rfl) rfl ?_
  have lp_7_1 : ∀ (fuel : Nat) (m : Int) (x : Int) (i : Int), (0 ≤ i) → (i ≤ 16) → (-1 ≤ x) → (x < V 4 w 3) → (m + itS (pS (V 4 w 3) (V 5 w) (V 6 w)) (16 - i).toNat x = itS (pS (V 4 w 3) (V 5 w) (V 6 w)) 16 slot) → (16 - i : Int).toNat < fuel → Kz X G P V 0 0 [some (.ref (ad G 4 w)), some (.int (iI slot)), some (.int (iI m)), some (.int (iI x)), some (.int (iI i))] 7 [] := by
    intro fuel
    induction fuel with
    | zero => intro m x i hi0 hi1 hx0 hx1 hm hf_7; exact absurd hf_7 (Nat.not_lt_zero _)
    | succ fuel ih_7 =>
      intro m x i hi0 hi1 hx0 hx1 hm hf_7
      refine z_iload E dX3_stepsFrom_7 rfl ?_
      refine z_bipush E dX3_stepsFrom_9 rfl ?_
      refine z_icmp_ge E 33 dX3_stepsFrom_11 rfl (by omega) (by omega) (fun c_2 => ?_) (fun c_2 => ?_)
      · skip
        refine z_iload_n E dX3_stepsFrom_33 2 rfl rfl ?_
        exact z_iret E Er0 dX3_stepsFrom_34 (⟨by first | (rw [← hm, itS_0 (by omega)]; omega) | (rw [← hm, show (16 - i).toNat = 0 by omega]; show _ = m + 0; omega), rfl, rfl⟩)
      · skip
        refine z_iload_n E dX3_stepsFrom_14 3 rfl rfl ?_
        refine z_if_le E 33 dX3_stepsFrom_15 rfl (by omega) (fun c_3 => ?_) (fun c_3 => ?_)
        · skip
          refine z_iload_n E dX3_stepsFrom_33 2 rfl rfl ?_
          exact z_iret E Er0 dX3_stepsFrom_34 (⟨by first | (rw [← hm, itS_0 (by omega)]; omega) | (rw [← hm, show (16 - i).toNat = 0 by omega]; show _ = m + 0; omega), rfl, rfl⟩)
        · skip
          refine z_aload_n E dX3_stepsFrom_18 0 rfl rfl ?_
          refine z_iload_n E dX3_stepsFrom_19 3 rfl rfl ?_
          refine z_callV E (ci := 3) (N := 5) (C := RX3) (T := TX3) (n := 1) (st := []) (vl_w (by decide) hw) rfl rfl [.int (iI x)] (kX3_parentSlot l G P V w x hw hB (by omega) (by omega) (by omega) (by omega)) gX3_stepsFrom_X3_parentSlot rfl ⟨rfl, rfl⟩ (by decide +kernel) ⟨Nat.le_of_ble_eq_true rfl, Nat.le_of_ble_eq_true rfl⟩ rfl rfl (Nat.le_of_ble_eq_true rfl) rfl dX3_stepsFrom_20 (z_dtI ?_)
          have h_4a := fnd_bd (V 4 w 3) (fun k => V 5 w k = V 6 w x) (by omega)
          refine z_istore_n E dX3_stepsFrom_23 3 rfl (L' := [some (.ref (ad G 4 w)), some (.int (iI slot)), some (.int (iI m)), some (.int (iI (fnd (V 4 w 3) (fun k => V 5 w k = V 6 w x)))), some (.int (iI i))]) (Nat.le_of_ble_eq_true rfl) rfl ?_
          refine z_iinc E m dX3_stepsFrom_24 (L' := [some (.ref (ad G 4 w)), some (.int (iI slot)), some (.int (iI (m + 1))), some (.int (iI (fnd (V 4 w 3) (fun k => V 5 w k = V 6 w x)))), some (.int (iI i))]) (Nat.le_of_ble_eq_true rfl) rfl rfl ?_
          refine z_iinc E i dX3_stepsFrom_27 (L' := [some (.ref (ad G 4 w)), some (.int (iI slot)), some (.int (iI (m + 1))), some (.int (iI (fnd (V 4 w 3) (fun k => V 5 w k = V 6 w x)))), some (.int (iI (i + 1)))]) (Nat.le_of_ble_eq_true rfl) rfl rfl ?_
          refine z_goto E 7 dX3_stepsFrom_30 rfl ?_
          exact ih_7 (m + 1) (fnd (V 4 w 3) (fun k => V 5 w k = V 6 w x)) (i + 1) (by omega) (by omega) (by omega) (by omega) (by rw [← hm, show (16 - i).toNat = (16 - (i + 1)).toNat + 1 by omega, itS_s (by omega)]; show m + 1 + itS _ _ (pS _ _ _ x) = _; omega) (by omega)
  exact lp_7_1 ((16 - 0 : Int).toNat + 1) 0 slot 0 (by omega) (by omega) (by omega) (by omega) (by rw [Int.zero_add]; rfl) (Nat.lt_succ_self _)

set_option maxHeartbeats 4000000 in
set_option maxRecDepth 100000 in
theorem kX3_commonSlot (l : Launch) (G : Gl) (P : Nat → Nat) (V : Vt) (w : Nat) (one : Int) (other : Int) (hw : w < 6) (hB : BV V) (hn0 : 0 ≤ V 4 w 3) (hn1 : V 4 w 3 ≤ 16) (h1 : 0 ≤ one) (h2 : one < V 4 w 3) (h3 : 0 ≤ other) (h4 : other < V 4 w 3) : Met l yX3_commonSlot wsX3_commonSlot ({ frames := 2, cells := 0, slots := 0, locals := 43 }) (va_Pc [.ref (ad G 4 w), .int (iI one), .int (iI other)] (Sg G P V)) (Qk G mkI (dt (cmS (pS (V 4 w 3) (V 5 w) (V 6 w)) 32 one other) P V)) 0 0 (mem G) := by
  refine z_met (cc := cX3_commonSlot) (nL := 6) (ret := (some .int)) (own := RX3) (by decide +kernel) rfl rfl (Nat.le_of_ble_eq_true rfl) (L := [some (.ref (ad G 4 w)), some (.int (iI one)), some (.int (iI other)), none, none, none]) rfl ?_
  intro X E Er0
  refine z_iload_n E dX3_commonSlot_0 1 rfl rfl ?_
  refine z_istore_n E dX3_commonSlot_1 3 rfl (L' := [some (.ref (ad G 4 w)), some (.int (iI one)), some (.int (iI other)), some (.int (iI one)), none, none]) (Nat.le_of_ble_eq_true rfl) rfl ?_
  refine z_iload_n E dX3_commonSlot_2 2 rfl rfl ?_
  refine z_istore E dX3_commonSlot_3 (L' := [some (.ref (ad G 4 w)), some (.int (iI one)), some (.int (iI other)), some (.int (iI one)), some (.int (iI other)), none]) (Nat.le_of_ble_eq_true rfl) rfl ?_
  refine z_iconst E dX3_commonSlot_5 ?_
  refine z_istore E dX3_commonSlot_6 (L' := [some (.ref (ad G 4 w)), some (.int (iI one)), some (.int (iI other)), some (.int (iI one)), some (.int (iI other)), some (.int (iI 0))]) (Nat.le_of_ble_eq_true rfl) rfl ?_
  have lp_8_1 : ∀ (fuel : Nat) (a : Int) (b : Int) (i : Int), (0 ≤ i) → (i ≤ 32) → (-1 ≤ a) → (a < V 4 w 3) → (-1 ≤ b) → (b < V 4 w 3) → (cmS (pS (V 4 w 3) (V 5 w) (V 6 w)) (32 - i).toNat a b = cmS (pS (V 4 w 3) (V 5 w) (V 6 w)) 32 one other) → (32 - i : Int).toNat < fuel → Kz X G P V 0 0 [some (.ref (ad G 4 w)), some (.int (iI one)), some (.int (iI other)), some (.int (iI a)), some (.int (iI b)), some (.int (iI i))] 8 [] := by
    intro fuel
    induction fuel with
    | zero => intro a b i hi0 hi1 ha0 ha1 hb0 hb1 hm hf_8; exact absurd hf_8 (Nat.not_lt_zero _)
    | succ fuel ih_8 =>
      intro a b i hi0 hi1 ha0 ha1 hb0 hb1 hm hf_8
      refine z_iload E dX3_commonSlot_8 rfl ?_
      refine z_bipush E dX3_commonSlot_10 rfl ?_
      refine z_icmp_ge E 50 dX3_commonSlot_12 rfl (by omega) (by omega) (fun c_2 => ?_) (fun c_2 => ?_)
      · skip
        refine z_iload_n E dX3_commonSlot_50 3 rfl rfl ?_
        exact z_iret E Er0 dX3_commonSlot_51 (⟨by first | (rw [← hm, show (32 - i).toNat = 0 by omega]; rfl) | (rw [← hm, cmS_e (by omega)]), rfl, rfl⟩)
      · skip
        refine z_iload_n E dX3_commonSlot_15 3 rfl rfl ?_
        refine z_iload E dX3_commonSlot_16 rfl ?_
        refine z_icmp_eq E 50 dX3_commonSlot_18 rfl (by omega) (by omega) (fun c_3 => ?_) (fun c_3 => ?_)
        · skip
          refine z_iload_n E dX3_commonSlot_50 3 rfl rfl ?_
          exact z_iret E Er0 dX3_commonSlot_51 (⟨by first | (rw [← hm, show (32 - i).toNat = 0 by omega]; rfl) | (rw [← hm, cmS_e (by omega)]), rfl, rfl⟩)
        · skip
          refine z_iload_n E dX3_commonSlot_21 3 rfl rfl ?_
          refine z_iload E dX3_commonSlot_22 rfl ?_
          refine z_icmp_le E 36 dX3_commonSlot_24 rfl (by omega) (by omega) (fun c_4 => ?_) (fun c_4 => ?_)
          · skip
            refine z_aload_n E dX3_commonSlot_36 0 rfl rfl ?_
            refine z_iload E dX3_commonSlot_37 rfl ?_
            refine z_callV E (ci := 3) (N := 5) (C := RX3) (T := TX3) (n := 1) (st := []) (vl_w (by decide) hw) rfl rfl [.int (iI b)] (kX3_parentSlot l G P V w b hw hB (by omega) (by omega) (by omega) (by omega)) gX3_commonSlot_X3_parentSlot rfl ⟨rfl, rfl⟩ (by decide +kernel) ⟨Nat.le_of_ble_eq_true rfl, Nat.le_of_ble_eq_true rfl⟩ rfl rfl (Nat.le_of_ble_eq_true rfl) rfl dX3_commonSlot_39 (z_dtI ?_)
            have h_5a := fnd_bd (V 4 w 3) (fun k => V 5 w k = V 6 w b) (by omega)
            refine z_istore E dX3_commonSlot_42 (L' := [some (.ref (ad G 4 w)), some (.int (iI one)), some (.int (iI other)), some (.int (iI a)), some (.int (iI (fnd (V 4 w 3) (fun k => V 5 w k = V 6 w b)))), some (.int (iI i))]) (Nat.le_of_ble_eq_true rfl) rfl ?_
            refine z_iinc E i dX3_commonSlot_44 (L' := [some (.ref (ad G 4 w)), some (.int (iI one)), some (.int (iI other)), some (.int (iI a)), some (.int (iI (fnd (V 4 w 3) (fun k => V 5 w k = V 6 w b)))), some (.int (iI (i + 1)))]) (Nat.le_of_ble_eq_true rfl) rfl rfl ?_
            refine z_goto E 8 dX3_commonSlot_47 rfl ?_
            exact ih_8 a (fnd (V 4 w 3) (fun k => V 5 w k = V 6 w b)) (i + 1) (by omega) (by omega) (by omega) (by omega) (by omega) (by omega) (by rw [← hm, show (32 - i).toNat = (32 - (i + 1)).toNat + 1 by omega]; first | (rw [cmS_g (by omega)]; done) | (rw [cmS_l (by omega) (by omega)]; done) | (rw [cmS_g (by omega)]; rfl) | (rw [cmS_l (by omega) (by omega)]; rfl)) (by omega)
          · skip
            refine z_aload_n E dX3_commonSlot_27 0 rfl rfl ?_
            refine z_iload_n E dX3_commonSlot_28 3 rfl rfl ?_
            refine z_callV E (ci := 3) (N := 5) (C := RX3) (T := TX3) (n := 1) (st := []) (vl_w (by decide) hw) rfl rfl [.int (iI a)] (kX3_parentSlot l G P V w a hw hB (by omega) (by omega) (by omega) (by omega)) gX3_commonSlot_X3_parentSlot rfl ⟨rfl, rfl⟩ (by decide +kernel) ⟨Nat.le_of_ble_eq_true rfl, Nat.le_of_ble_eq_true rfl⟩ rfl rfl (Nat.le_of_ble_eq_true rfl) rfl dX3_commonSlot_29 (z_dtI ?_)
            have h_6a := fnd_bd (V 4 w 3) (fun k => V 5 w k = V 6 w a) (by omega)
            refine z_istore_n E dX3_commonSlot_32 3 rfl (L' := [some (.ref (ad G 4 w)), some (.int (iI one)), some (.int (iI other)), some (.int (iI (fnd (V 4 w 3) (fun k => V 5 w k = V 6 w a)))), some (.int (iI b)), some (.int (iI i))]) (Nat.le_of_ble_eq_true rfl) rfl ?_
            refine z_goto E 44 dX3_commonSlot_33 rfl ?_
            refine z_iinc E i dX3_commonSlot_44 (L' := [some (.ref (ad G 4 w)), some (.int (iI one)), some (.int (iI other)), some (.int (iI (fnd (V 4 w 3) (fun k => V 5 w k = V 6 w a)))), some (.int (iI b)), some (.int (iI (i + 1)))]) (Nat.le_of_ble_eq_true rfl) rfl rfl ?_
            refine z_goto E 8 dX3_commonSlot_47 rfl ?_
            exact ih_8 (fnd (V 4 w 3) (fun k => V 5 w k = V 6 w a)) b (i + 1) (by omega) (by omega) (by omega) (by omega) (by omega) (by omega) (by rw [← hm, show (32 - i).toNat = (32 - (i + 1)).toNat + 1 by omega]; first | (rw [cmS_g (by omega)]; done) | (rw [cmS_l (by omega) (by omega)]; done) | (rw [cmS_g (by omega)]; rfl) | (rw [cmS_l (by omega) (by omega)]; rfl)) (by omega)
  exact lp_8_1 ((32 - 0 : Int).toNat + 1) one other 0 (by omega) (by omega) (by omega) (by omega) (by omega) (by omega) rfl (Nat.lt_succ_self _)

set_option maxHeartbeats 4000000 in
set_option maxRecDepth 100000 in
theorem kX3_unlikePlaces (l : Launch) (G : Gl) (P : Nat → Nat) (V : Vt) (w : Nat) (one : Int) (other : Int) (hw : w < 6) (hB : BV V) (hn0 : 0 ≤ V 4 w 3) (hn1 : V 4 w 3 ≤ 16) (hL : ∀ j, 0 ≤ V 7 w j ∧ V 7 w j < 40) (h1 : 0 ≤ one) (h2 : one < V 4 w 3) (h3 : 0 ≤ other) (h4 : other < V 4 w 3) : Met l yX3_unlikePlaces wsX3_unlikePlaces ({ frames := 1, cells := 0, slots := 0, locals := 23 }) (va_Pc [.ref (ad G 4 w), .int (iI one), .int (iI other)] (Sg G P V)) (Qk G mkI (dt (sm 6 (fun p => b2i (¬ V 7 w (one * 6 + p) = V 7 w (other * 6 + p)))) P V)) 0 0 (mem G) := by
  refine z_met (cc := cX3_unlikePlaces) (nL := 5) (ret := (some .int)) (own := RX3) (by decide +kernel) rfl rfl (Nat.le_of_ble_eq_true rfl) (L := [some (.ref (ad G 4 w)), some (.int (iI one)), some (.int (iI other)), none, none]) rfl ?_
  intro X E Er0
  refine z_iconst E dX3_unlikePlaces_0 ?_
  refine z_istore_n E dX3_unlikePlaces_1 3 rfl (L' := [some (.ref (ad G 4 w)), some (.int (iI one)), some (.int (iI other)), some (.int (iI 0)), none]) (Nat.le_of_ble_eq_true rfl) rfl ?_
  refine z_iconst E dX3_unlikePlaces_2 ?_
  refine z_istore E dX3_unlikePlaces_3 (L' := [some (.ref (ad G 4 w)), some (.int (iI one)), some (.int (iI other)), some (.int (iI 0)), some (.int (iI 0))]) (Nat.le_of_ble_eq_true rfl) rfl ?_
  have lp_5_1 : ∀ (fuel : Nat) (m : Int) (k : Int), (0 ≤ k) → (k ≤ 6) → (m = sm k (fun p => b2i (¬ V 7 w (one * 6 + p) = V 7 w (other * 6 + p)))) → (6 - k : Int).toNat < fuel → Kz X G P V 0 0 [some (.ref (ad G 4 w)), some (.int (iI one)), some (.int (iI other)), some (.int (iI m)), some (.int (iI k))] 5 [] := by
    intro fuel
    induction fuel with
    | zero => intro m k hk0 hk1 hs hf_5; exact absurd hf_5 (Nat.not_lt_zero _)
    | succ fuel ih_5 =>
      intro m k hk0 hk1 hs hf_5
      refine z_iload E dX3_unlikePlaces_5 rfl ?_
      refine z_bipush E dX3_unlikePlaces_7 rfl ?_
      refine z_icmp_ge E 43 dX3_unlikePlaces_9 rfl (by omega) (by omega) (fun c_2 => ?_) (fun c_2 => ?_)
      · skip
        refine z_iload_n E dX3_unlikePlaces_43 3 rfl rfl ?_
        exact z_iret E Er0 dX3_unlikePlaces_44 (⟨by rw [hs, show k = 6 by omega], rfl, rfl⟩)
      · skip
        refine z_iload_n E dX3_unlikePlaces_12 3 rfl rfl ?_
        refine z_aload_n E dX3_unlikePlaces_13 0 rfl rfl ?_
        refine z_iload_n E dX3_unlikePlaces_14 1 rfl rfl ?_
        refine z_iload E dX3_unlikePlaces_15 rfl ?_
        refine z_callV E (ci := 3) (N := 5) (C := RX3) (T := TX3) (n := 2) (st := [.int (iI m)]) (vl_w (by decide) hw) rfl rfl [.int (iI one), .int (iI k)] (kX3_block l G P V w one k hw hB (by omega) (by omega) hL (by omega) (by omega) (by omega) (by omega)) gX3_unlikePlaces_X3_block rfl ⟨rfl, rfl⟩ (by decide +kernel) ⟨Nat.le_of_ble_eq_true rfl, Nat.le_of_ble_eq_true rfl⟩ rfl rfl (Nat.le_of_ble_eq_true rfl) rfl dX3_unlikePlaces_17 (z_dtI ?_)
        have h_3a := hL (one * 6 + k)
        refine z_aload_n E dX3_unlikePlaces_20 0 rfl rfl ?_
        refine z_iload_n E dX3_unlikePlaces_21 2 rfl rfl ?_
        refine z_iload E dX3_unlikePlaces_22 rfl ?_
        refine z_callV E (ci := 3) (N := 5) (C := RX3) (T := TX3) (n := 2) (st := [.int (iI (V 7 w (one * 6 + k))), .int (iI m)]) (vl_w (by decide) hw) rfl rfl [.int (iI other), .int (iI k)] (kX3_block l G P V w other k hw hB (by omega) (by omega) hL (by omega) (by omega) (by omega) (by omega)) gX3_unlikePlaces_X3_block rfl ⟨rfl, rfl⟩ (by decide +kernel) ⟨Nat.le_of_ble_eq_true rfl, Nat.le_of_ble_eq_true rfl⟩ rfl rfl (Nat.le_of_ble_eq_true rfl) rfl dX3_unlikePlaces_24 (z_dtI ?_)
        have h_4a := hL (other * 6 + k)
        refine z_icmp_eq E 34 dX3_unlikePlaces_27 rfl (by omega) (by omega) (fun c_5 => ?_) (fun c_5 => ?_)
        · skip
          refine z_iconst E dX3_unlikePlaces_34 ?_
          refine z_iadd E dX3_unlikePlaces_35 ?_
          refine z_istore_n E dX3_unlikePlaces_36 3 rfl (L' := [some (.ref (ad G 4 w)), some (.int (iI one)), some (.int (iI other)), some (.int (iI (m + 0))), some (.int (iI k))]) (Nat.le_of_ble_eq_true rfl) rfl ?_
          refine z_iinc E k dX3_unlikePlaces_37 (L' := [some (.ref (ad G 4 w)), some (.int (iI one)), some (.int (iI other)), some (.int (iI (m + 0))), some (.int (iI (k + 1)))]) (Nat.le_of_ble_eq_true rfl) rfl rfl ?_
          refine z_goto E 5 dX3_unlikePlaces_40 rfl ?_
          exact ih_5 (m + 0) (k + 1) (by omega) (by omega) (by first | exact smb_t hs (by omega) (by assumption) | exact smb_f hs (by omega) (fun z => z (by assumption))) (by omega)
        · skip
          refine z_iconst E dX3_unlikePlaces_30 ?_
          refine z_goto E 35 dX3_unlikePlaces_31 rfl ?_
          refine z_iadd E dX3_unlikePlaces_35 ?_
          refine z_istore_n E dX3_unlikePlaces_36 3 rfl (L' := [some (.ref (ad G 4 w)), some (.int (iI one)), some (.int (iI other)), some (.int (iI (m + 1))), some (.int (iI k))]) (Nat.le_of_ble_eq_true rfl) rfl ?_
          refine z_iinc E k dX3_unlikePlaces_37 (L' := [some (.ref (ad G 4 w)), some (.int (iI one)), some (.int (iI other)), some (.int (iI (m + 1))), some (.int (iI (k + 1)))]) (Nat.le_of_ble_eq_true rfl) rfl rfl ?_
          refine z_goto E 5 dX3_unlikePlaces_40 rfl ?_
          exact ih_5 (m + 1) (k + 1) (by omega) (by omega) (by first | exact smb_t hs (by omega) (by assumption) | exact smb_f hs (by omega) (fun z => z (by assumption))) (by omega)
  exact lp_5_1 ((6 - 0 : Int).toNat + 1) 0 0 (by omega) (by omega) (sm_0 (by omega)).symm (Nat.lt_succ_self _)

set_option maxHeartbeats 4000000 in
set_option maxRecDepth 100000 in
theorem kX3_placesWith (l : Launch) (G : Gl) (P : Nat → Nat) (V : Vt) (w : Nat) (slot : Int) (block : Int) (hw : w < 6) (hB : BV V) (hn0 : 0 ≤ V 4 w 3) (hn1 : V 4 w 3 ≤ 16) (hL : ∀ j, 0 ≤ V 7 w j ∧ V 7 w j < 40) (h1 : 0 ≤ slot) (h2 : slot < V 4 w 3) (h3 : inR block) : Met l yX3_placesWith wsX3_placesWith ({ frames := 1, cells := 0, slots := 0, locals := 23 }) (va_Pc [.ref (ad G 4 w), .int (iI slot), .int (iI block)] (Sg G P V)) (Qk G mkI (dt (sm 6 (fun p => b2i (V 7 w (slot * 6 + p) = block))) P V)) 0 0 (mem G) := by
  refine z_met (cc := cX3_placesWith) (nL := 5) (ret := (some .int)) (own := RX3) (by decide +kernel) rfl rfl (Nat.le_of_ble_eq_true rfl) (L := [some (.ref (ad G 4 w)), some (.int (iI slot)), some (.int (iI block)), none, none]) rfl ?_
  intro X E Er0
  refine z_iconst E dX3_placesWith_0 ?_
  refine z_istore_n E dX3_placesWith_1 3 rfl (L' := [some (.ref (ad G 4 w)), some (.int (iI slot)), some (.int (iI block)), some (.int (iI 0)), none]) (Nat.le_of_ble_eq_true rfl) rfl ?_
  refine z_iconst E dX3_placesWith_2 ?_
  refine z_istore E dX3_placesWith_3 (L' := [some (.ref (ad G 4 w)), some (.int (iI slot)), some (.int (iI block)), some (.int (iI 0)), some (.int (iI 0))]) (Nat.le_of_ble_eq_true rfl) rfl ?_
  have lp_5_1 : ∀ (fuel : Nat) (m : Int) (k : Int), (0 ≤ k) → (k ≤ 6) → (m = sm k (fun p => b2i (V 7 w (slot * 6 + p) = block))) → (6 - k : Int).toNat < fuel → Kz X G P V 0 0 [some (.ref (ad G 4 w)), some (.int (iI slot)), some (.int (iI block)), some (.int (iI m)), some (.int (iI k))] 5 [] := by
    intro fuel
    induction fuel with
    | zero => intro m k hk0 hk1 hs hf_5; exact absurd hf_5 (Nat.not_lt_zero _)
    | succ fuel ih_5 =>
      intro m k hk0 hk1 hs hf_5
      refine z_iload E dX3_placesWith_5 rfl ?_
      refine z_bipush E dX3_placesWith_7 rfl ?_
      refine z_icmp_ge E 37 dX3_placesWith_9 rfl (by omega) (by omega) (fun c_2 => ?_) (fun c_2 => ?_)
      · skip
        refine z_iload_n E dX3_placesWith_37 3 rfl rfl ?_
        exact z_iret E Er0 dX3_placesWith_38 (⟨by rw [hs, show k = 6 by omega], rfl, rfl⟩)
      · skip
        refine z_iload_n E dX3_placesWith_12 3 rfl rfl ?_
        refine z_aload_n E dX3_placesWith_13 0 rfl rfl ?_
        refine z_iload_n E dX3_placesWith_14 1 rfl rfl ?_
        refine z_iload E dX3_placesWith_15 rfl ?_
        refine z_callV E (ci := 3) (N := 5) (C := RX3) (T := TX3) (n := 2) (st := [.int (iI m)]) (vl_w (by decide) hw) rfl rfl [.int (iI slot), .int (iI k)] (kX3_block l G P V w slot k hw hB (by omega) (by omega) hL (by omega) (by omega) (by omega) (by omega)) gX3_placesWith_X3_block rfl ⟨rfl, rfl⟩ (by decide +kernel) ⟨Nat.le_of_ble_eq_true rfl, Nat.le_of_ble_eq_true rfl⟩ rfl rfl (Nat.le_of_ble_eq_true rfl) rfl dX3_placesWith_17 (z_dtI ?_)
        have h_3a := hL (slot * 6 + k)
        refine z_iload_n E dX3_placesWith_20 2 rfl rfl ?_
        refine z_icmp_ne E 28 dX3_placesWith_21 rfl (by omega) (by omega) (fun c_4 => ?_) (fun c_4 => ?_)
        · skip
          refine z_iconst E dX3_placesWith_28 ?_
          refine z_iadd E dX3_placesWith_29 ?_
          refine z_istore_n E dX3_placesWith_30 3 rfl (L' := [some (.ref (ad G 4 w)), some (.int (iI slot)), some (.int (iI block)), some (.int (iI (m + 0))), some (.int (iI k))]) (Nat.le_of_ble_eq_true rfl) rfl ?_
          refine z_iinc E k dX3_placesWith_31 (L' := [some (.ref (ad G 4 w)), some (.int (iI slot)), some (.int (iI block)), some (.int (iI (m + 0))), some (.int (iI (k + 1)))]) (Nat.le_of_ble_eq_true rfl) rfl rfl ?_
          refine z_goto E 5 dX3_placesWith_34 rfl ?_
          exact ih_5 (m + 0) (k + 1) (by omega) (by omega) (by first | exact smb_t hs (by omega) (by first | assumption | omega) | exact smb_f hs (by omega) (by first | assumption | omega) | exact smb_f0 hs (by omega) (by first | assumption | omega)) (by omega)
        · skip
          refine z_iconst E dX3_placesWith_24 ?_
          refine z_goto E 29 dX3_placesWith_25 rfl ?_
          refine z_iadd E dX3_placesWith_29 ?_
          refine z_istore_n E dX3_placesWith_30 3 rfl (L' := [some (.ref (ad G 4 w)), some (.int (iI slot)), some (.int (iI block)), some (.int (iI (m + 1))), some (.int (iI k))]) (Nat.le_of_ble_eq_true rfl) rfl ?_
          refine z_iinc E k dX3_placesWith_31 (L' := [some (.ref (ad G 4 w)), some (.int (iI slot)), some (.int (iI block)), some (.int (iI (m + 1))), some (.int (iI (k + 1)))]) (Nat.le_of_ble_eq_true rfl) rfl rfl ?_
          refine z_goto E 5 dX3_placesWith_34 rfl ?_
          exact ih_5 (m + 1) (k + 1) (by omega) (by omega) (by first | exact smb_t hs (by omega) (by first | assumption | omega) | exact smb_f hs (by omega) (by first | assumption | omega) | exact smb_f0 hs (by omega) (by first | assumption | omega)) (by omega)
  exact lp_5_1 ((6 - 0 : Int).toNat + 1) 0 0 (by omega) (by omega) (sm_0 (by omega)).symm (Nat.lt_succ_self _)

set_option maxHeartbeats 4000000 in
set_option maxRecDepth 100000 in
theorem kX3_statesWith (l : Launch) (G : Gl) (P : Nat → Nat) (V : Vt) (w : Nat) (block : Int) (hw : w < 6) (hB : BV V) (hn0 : 0 ≤ V 4 w 3) (hn1 : V 4 w 3 ≤ 16) (hL : ∀ j, 0 ≤ V 7 w j ∧ V 7 w j < 40) (h3 : inR block) : Met l yX3_statesWith wsX3_statesWith ({ frames := 2, cells := 0, slots := 0, locals := 47 }) (va_Pc [.ref (ad G 4 w), .int (iI block)] (Sg G P V)) (Qk G mkI (dt (sm (V 4 w 3) (fun k => b2i (0 < sm 6 (fun p => b2i (V 7 w (k * 6 + p) = block))))) P V)) 0 0 (mem G) := by
  refine z_met (cc := cX3_statesWith) (nL := 4) (ret := (some .int)) (own := RX3) (by decide +kernel) rfl rfl (Nat.le_of_ble_eq_true rfl) (L := [some (.ref (ad G 4 w)), some (.int (iI block)), none, none]) rfl ?_
  intro X E Er0
  have iX3 : ∀ x ∈ wsX30, x ∈ wsX3_statesWith := by decide +kernel
  have f0 : Cond.fieldLink RX3 21 "SharedStates$States" "size" "I" ∈ wsX3_statesWith := by decide +kernel
  refine z_iconst E dX3_statesWith_0 ?_
  refine z_istore_n E dX3_statesWith_1 2 rfl (L' := [some (.ref (ad G 4 w)), some (.int (iI block)), some (.int (iI 0)), none]) (Nat.le_of_ble_eq_true rfl) rfl ?_
  refine z_iconst E dX3_statesWith_2 ?_
  refine z_istore_n E dX3_statesWith_3 3 rfl (L' := [some (.ref (ad G 4 w)), some (.int (iI block)), some (.int (iI 0)), some (.int (iI 0))]) (Nat.le_of_ble_eq_true rfl) rfl ?_
  have lp_4_1 : ∀ (fuel : Nat) (m : Int) (k : Int), (0 ≤ k) → (k ≤ V 4 w 3) → (m = sm k (fun k => b2i (0 < sm 6 (fun p => b2i (V 7 w (k * 6 + p) = block))))) → (V 4 w 3 - k : Int).toNat < fuel → Kz X G P V 0 0 [some (.ref (ad G 4 w)), some (.int (iI block)), some (.int (iI m)), some (.int (iI k))] 4 [] := by
    intro fuel
    induction fuel with
    | zero => intro m k hk0 hk1 hs hf_4; exact absurd hf_4 (Nat.not_lt_zero _)
    | succ fuel ih_4 =>
      intro m k hk0 hk1 hs hf_4
      refine z_iload_n E dX3_statesWith_4 3 rfl rfl ?_
      refine z_aload_n E dX3_statesWith_5 0 rfl rfl ?_
      have hr_2 := hB.g 4 w 3 rfl
      refine z_get E (ci := 3) (N := 5) (C := RX3) (T := TX3) (vl_w (by decide) hw) rfl rfl iX3 3 (by decide) rfl f0 rfl dX3_statesWith_6 ?_
      refine z_icmp_ge E 35 dX3_statesWith_9 rfl (by omega) (by omega) (fun c_3 => ?_) (fun c_3 => ?_)
      · skip
        refine z_iload_n E dX3_statesWith_35 2 rfl rfl ?_
        exact z_iret E Er0 dX3_statesWith_36 (⟨by rw [hs, show k = V 4 w 3 by omega], rfl, rfl⟩)
      · skip
        refine z_iload_n E dX3_statesWith_12 2 rfl rfl ?_
        refine z_aload_n E dX3_statesWith_13 0 rfl rfl ?_
        refine z_iload_n E dX3_statesWith_14 3 rfl rfl ?_
        refine z_iload_n E dX3_statesWith_15 1 rfl rfl ?_
        refine z_callV E (ci := 3) (N := 5) (C := RX3) (T := TX3) (n := 2) (st := [.int (iI m)]) (vl_w (by decide) hw) rfl rfl [.int (iI k), .int (iI block)] (kX3_placesWith l G P V w k block hw hB (by omega) (by omega) hL (by omega) (by omega) (by omega)) gX3_statesWith_X3_placesWith rfl ⟨rfl, rfl⟩ (by decide +kernel) ⟨Nat.le_of_ble_eq_true rfl, Nat.le_of_ble_eq_true rfl⟩ rfl rfl (Nat.le_of_ble_eq_true rfl) rfl dX3_statesWith_16 (z_dtI ?_)
        have h_4a := sm_b2i_bd (n := 6) (p := fun p => V 7 w (k * 6 + p) = block) (by omega)
        refine z_if_le E 26 dX3_statesWith_19 rfl (by omega) (fun c_5 => ?_) (fun c_5 => ?_)
        · skip
          refine z_iconst E dX3_statesWith_26 ?_
          refine z_iadd E dX3_statesWith_27 ?_
          refine z_istore_n E dX3_statesWith_28 2 rfl (L' := [some (.ref (ad G 4 w)), some (.int (iI block)), some (.int (iI (m + 0))), some (.int (iI k))]) (Nat.le_of_ble_eq_true rfl) rfl ?_
          refine z_iinc E k dX3_statesWith_29 (L' := [some (.ref (ad G 4 w)), some (.int (iI block)), some (.int (iI (m + 0))), some (.int (iI (k + 1)))]) (Nat.le_of_ble_eq_true rfl) rfl rfl ?_
          refine z_goto E 4 dX3_statesWith_32 rfl ?_
          exact ih_4 (m + 0) (k + 1) (by omega) (by omega) (by first | exact smb_t hs (by omega) (by first | assumption | omega) | exact smb_f hs (by omega) (by first | assumption | omega) | exact smb_f0 hs (by omega) (by first | assumption | omega)) (by omega)
        · skip
          refine z_iconst E dX3_statesWith_22 ?_
          refine z_goto E 27 dX3_statesWith_23 rfl ?_
          refine z_iadd E dX3_statesWith_27 ?_
          refine z_istore_n E dX3_statesWith_28 2 rfl (L' := [some (.ref (ad G 4 w)), some (.int (iI block)), some (.int (iI (m + 1))), some (.int (iI k))]) (Nat.le_of_ble_eq_true rfl) rfl ?_
          refine z_iinc E k dX3_statesWith_29 (L' := [some (.ref (ad G 4 w)), some (.int (iI block)), some (.int (iI (m + 1))), some (.int (iI (k + 1)))]) (Nat.le_of_ble_eq_true rfl) rfl rfl ?_
          refine z_goto E 4 dX3_statesWith_32 rfl ?_
          exact ih_4 (m + 1) (k + 1) (by omega) (by omega) (by first | exact smb_t hs (by omega) (by first | assumption | omega) | exact smb_f hs (by omega) (by first | assumption | omega) | exact smb_f0 hs (by omega) (by first | assumption | omega)) (by omega)
  exact lp_4_1 ((V 4 w 3 - 0 : Int).toNat + 1) 0 0 (by omega) (by omega) (sm_0 (by omega)).symm (Nat.lt_succ_self _)

set_option maxHeartbeats 4000000 in
set_option maxRecDepth 100000 in
theorem kX3_isFirstPlace (l : Launch) (G : Gl) (P : Nat → Nat) (V : Vt) (w : Nat) (slot : Int) (place : Int) (hw : w < 6) (hB : BV V) (hn0 : 0 ≤ V 4 w 3) (hn1 : V 4 w 3 ≤ 16) (hL : ∀ j, 0 ≤ V 7 w j ∧ V 7 w j < 40) (h1 : 0 ≤ slot) (h2 : slot < V 4 w 3) (h3 : 0 ≤ place) (h4 : place < 6) : Met l yX3_isFirstPlace wsX3_isFirstPlace ({ frames := 1, cells := 0, slots := 0, locals := 23 }) (va_Pc [.ref (ad G 4 w), .int (iI slot), .int (iI place)] (Sg G P V)) (Qk G mkI (dt (b2i (∀ e, 0 ≤ e → e < place → ¬ V 7 w (slot * 6 + e) = V 7 w (slot * 6 + place))) P V)) 0 0 (mem G) := by
  refine z_met (cc := cX3_isFirstPlace) (nL := 4) (ret := (some .boolean)) (own := RX3) (by decide +kernel) rfl rfl (Nat.le_of_ble_eq_true rfl) (L := [some (.ref (ad G 4 w)), some (.int (iI slot)), some (.int (iI place)), none]) rfl ?_
  intro X E Er0
  refine z_iconst E dX3_isFirstPlace_0 ?_
  refine z_istore_n E dX3_isFirstPlace_1 3 rfl (L' := [some (.ref (ad G 4 w)), some (.int (iI slot)), some (.int (iI place)), some (.int (iI 0))]) (Nat.le_of_ble_eq_true rfl) rfl ?_
  have lp_2_1 : ∀ (fuel : Nat) (k : Int), (0 ≤ k) → (k ≤ place) → (∀ e, 0 ≤ e → e < k → ¬ V 7 w (slot * 6 + e) = V 7 w (slot * 6 + place)) → (place - k : Int).toNat < fuel → Kz X G P V 0 0 [some (.ref (ad G 4 w)), some (.int (iI slot)), some (.int (iI place)), some (.int (iI k))] 2 [] := by
    intro fuel
    induction fuel with
    | zero => intro k hk0 hk1 hla hf_2; exact absurd hf_2 (Nat.not_lt_zero _)
    | succ fuel ih_2 =>
      intro k hk0 hk1 hla hf_2
      refine z_iload_n E dX3_isFirstPlace_2 3 rfl rfl ?_
      refine z_iload_n E dX3_isFirstPlace_3 2 rfl rfl ?_
      refine z_icmp_ge E 30 dX3_isFirstPlace_4 rfl (by omega) (by omega) (fun c_2 => ?_) (fun c_2 => ?_)
      · skip
        refine z_iconst E dX3_isFirstPlace_30 ?_
        exact z_zret E Er0 dX3_isFirstPlace_31 (by first | decide | omega) (⟨(b2i_t (fun e h0 h1 => hla e h0 (by omega))).symm, rfl, rfl⟩)
      · skip
        refine z_aload_n E dX3_isFirstPlace_7 0 rfl rfl ?_
        refine z_iload_n E dX3_isFirstPlace_8 1 rfl rfl ?_
        refine z_iload_n E dX3_isFirstPlace_9 3 rfl rfl ?_
        refine z_callV E (ci := 3) (N := 5) (C := RX3) (T := TX3) (n := 2) (st := []) (vl_w (by decide) hw) rfl rfl [.int (iI slot), .int (iI k)] (kX3_block l G P V w slot k hw hB (by omega) (by omega) hL (by omega) (by omega) (by omega) (by omega)) gX3_isFirstPlace_X3_block rfl ⟨rfl, rfl⟩ (by decide +kernel) ⟨Nat.le_of_ble_eq_true rfl, Nat.le_of_ble_eq_true rfl⟩ rfl rfl (Nat.le_of_ble_eq_true rfl) rfl dX3_isFirstPlace_10 (z_dtI ?_)
        have h_3a := hL (slot * 6 + k)
        refine z_aload_n E dX3_isFirstPlace_13 0 rfl rfl ?_
        refine z_iload_n E dX3_isFirstPlace_14 1 rfl rfl ?_
        refine z_iload_n E dX3_isFirstPlace_15 2 rfl rfl ?_
        refine z_callV E (ci := 3) (N := 5) (C := RX3) (T := TX3) (n := 2) (st := [.int (iI (V 7 w (slot * 6 + k)))]) (vl_w (by decide) hw) rfl rfl [.int (iI slot), .int (iI place)] (kX3_block l G P V w slot place hw hB (by omega) (by omega) hL (by omega) (by omega) (by omega) (by omega)) gX3_isFirstPlace_X3_block rfl ⟨rfl, rfl⟩ (by decide +kernel) ⟨Nat.le_of_ble_eq_true rfl, Nat.le_of_ble_eq_true rfl⟩ rfl rfl (Nat.le_of_ble_eq_true rfl) rfl dX3_isFirstPlace_16 (z_dtI ?_)
        have h_4a := hL (slot * 6 + place)
        refine z_icmp_ne E 24 dX3_isFirstPlace_19 rfl (by omega) (by omega) (fun c_5 => ?_) (fun c_5 => ?_)
        · skip
          refine z_iinc E k dX3_isFirstPlace_24 (L' := [some (.ref (ad G 4 w)), some (.int (iI slot)), some (.int (iI place)), some (.int (iI (k + 1)))]) (Nat.le_of_ble_eq_true rfl) rfl rfl ?_
          refine z_goto E 2 dX3_isFirstPlace_27 rfl ?_
          exact ih_2 (k + 1) (by omega) (by omega) (all_s hla (by assumption)) (by omega)
        · skip
          refine z_iconst E dX3_isFirstPlace_22 ?_
          exact z_zret E Er0 dX3_isFirstPlace_23 (by first | decide | omega) (⟨(b2i_f (fun z => z k hk0 (by omega) (by assumption))).symm, rfl, rfl⟩)
  exact lp_2_1 ((place - 0 : Int).toNat + 1) 0 (by omega) (by omega) all_0 (Nat.lt_succ_self _)

set_option maxHeartbeats 4000000 in
set_option maxRecDepth 100000 in
theorem kX3_blocksIn (l : Launch) (G : Gl) (P : Nat → Nat) (V : Vt) (w : Nat) (slot : Int) (hw : w < 6) (hB : BV V) (hn0 : 0 ≤ V 4 w 3) (hn1 : V 4 w 3 ≤ 16) (hL : ∀ j, 0 ≤ V 7 w j ∧ V 7 w j < 40) (h1 : 0 ≤ slot) (h2 : slot < V 4 w 3) : Met l yX3_blocksIn wsX3_blocksIn ({ frames := 2, cells := 0, slots := 0, locals := 46 }) (va_Pc [.ref (ad G 4 w), .int (iI slot)] (Sg G P V)) (Qk G mkI (dt (sm 6 (fun p => b2i (∀ e, 0 ≤ e → e < p → ¬ V 7 w (slot * 6 + e) = V 7 w (slot * 6 + p)))) P V)) 0 0 (mem G) := by
  refine z_met (cc := cX3_blocksIn) (nL := 4) (ret := (some .int)) (own := RX3) (by decide +kernel) rfl rfl (Nat.le_of_ble_eq_true rfl) (L := [some (.ref (ad G 4 w)), some (.int (iI slot)), none, none]) rfl ?_
  intro X E Er0
  refine z_iconst E dX3_blocksIn_0 ?_
  refine z_istore_n E dX3_blocksIn_1 2 rfl (L' := [some (.ref (ad G 4 w)), some (.int (iI slot)), some (.int (iI 0)), none]) (Nat.le_of_ble_eq_true rfl) rfl ?_
  refine z_iconst E dX3_blocksIn_2 ?_
  refine z_istore_n E dX3_blocksIn_3 3 rfl (L' := [some (.ref (ad G 4 w)), some (.int (iI slot)), some (.int (iI 0)), some (.int (iI 0))]) (Nat.le_of_ble_eq_true rfl) rfl ?_
  have lp_4_1 : ∀ (fuel : Nat) (m : Int) (k : Int), (0 ≤ k) → (k ≤ 6) → (m = sm k (fun p => b2i (∀ e, 0 ≤ e → e < p → ¬ V 7 w (slot * 6 + e) = V 7 w (slot * 6 + p)))) → (6 - k : Int).toNat < fuel → Kz X G P V 0 0 [some (.ref (ad G 4 w)), some (.int (iI slot)), some (.int (iI m)), some (.int (iI k))] 4 [] := by
    intro fuel
    induction fuel with
    | zero => intro m k hk0 hk1 hs hf_4; exact absurd hf_4 (Nat.not_lt_zero _)
    | succ fuel ih_4 =>
      intro m k hk0 hk1 hs hf_4
      refine z_iload_n E dX3_blocksIn_4 3 rfl rfl ?_
      refine z_bipush E dX3_blocksIn_5 rfl ?_
      refine z_icmp_ge E 33 dX3_blocksIn_7 rfl (by omega) (by omega) (fun c_2 => ?_) (fun c_2 => ?_)
      · skip
        refine z_iload_n E dX3_blocksIn_33 2 rfl rfl ?_
        exact z_iret E Er0 dX3_blocksIn_34 (⟨by rw [hs, show k = 6 by omega], rfl, rfl⟩)
      · skip
        refine z_iload_n E dX3_blocksIn_10 2 rfl rfl ?_
        refine z_aload_n E dX3_blocksIn_11 0 rfl rfl ?_
        refine z_iload_n E dX3_blocksIn_12 1 rfl rfl ?_
        refine z_iload_n E dX3_blocksIn_13 3 rfl rfl ?_
        refine z_callV E (ci := 3) (N := 5) (C := RX3) (T := TX3) (n := 2) (st := [.int (iI m)]) (vl_w (by decide) hw) rfl rfl [.int (iI slot), .int (iI k)] (kX3_isFirstPlace l G P V w slot k hw hB (by omega) (by omega) hL (by omega) (by omega) (by omega) (by omega)) gX3_blocksIn_X3_isFirstPlace rfl ⟨rfl, rfl⟩ (by decide +kernel) ⟨Nat.le_of_ble_eq_true rfl, Nat.le_of_ble_eq_true rfl⟩ rfl rfl (Nat.le_of_ble_eq_true rfl) rfl dX3_blocksIn_14 (z_dtI ?_)
        refine z_ifeq_b E 24 dX3_blocksIn_17 rfl (fun c_4 => ?_) (fun c_4 => ?_)
        · skip
          refine z_iconst E dX3_blocksIn_24 ?_
          refine z_iadd E dX3_blocksIn_25 ?_
          refine z_istore_n E dX3_blocksIn_26 2 rfl (L' := [some (.ref (ad G 4 w)), some (.int (iI slot)), some (.int (iI (m + 0))), some (.int (iI k))]) (Nat.le_of_ble_eq_true rfl) rfl ?_
          refine z_iinc E k dX3_blocksIn_27 (L' := [some (.ref (ad G 4 w)), some (.int (iI slot)), some (.int (iI (m + 0))), some (.int (iI (k + 1)))]) (Nat.le_of_ble_eq_true rfl) rfl rfl ?_
          refine z_goto E 4 dX3_blocksIn_30 rfl ?_
          exact ih_4 (m + 0) (k + 1) (by omega) (by omega) (by first | exact smb_t hs (by omega) (by first | assumption | omega) | exact smb_f hs (by omega) (by first | assumption | omega) | exact smb_f0 hs (by omega) (by first | assumption | omega)) (by omega)
        · skip
          refine z_iconst E dX3_blocksIn_20 ?_
          refine z_goto E 25 dX3_blocksIn_21 rfl ?_
          refine z_iadd E dX3_blocksIn_25 ?_
          refine z_istore_n E dX3_blocksIn_26 2 rfl (L' := [some (.ref (ad G 4 w)), some (.int (iI slot)), some (.int (iI (m + 1))), some (.int (iI k))]) (Nat.le_of_ble_eq_true rfl) rfl ?_
          refine z_iinc E k dX3_blocksIn_27 (L' := [some (.ref (ad G 4 w)), some (.int (iI slot)), some (.int (iI (m + 1))), some (.int (iI (k + 1)))]) (Nat.le_of_ble_eq_true rfl) rfl rfl ?_
          refine z_goto E 4 dX3_blocksIn_30 rfl ?_
          exact ih_4 (m + 1) (k + 1) (by omega) (by omega) (by first | exact smb_t hs (by omega) (by first | assumption | omega) | exact smb_f hs (by omega) (by first | assumption | omega) | exact smb_f0 hs (by omega) (by first | assumption | omega)) (by omega)
  exact lp_4_1 ((6 - 0 : Int).toNat + 1) 0 0 (by omega) (by omega) (sm_0 (by omega)).symm (Nat.lt_succ_self _)

set_option maxHeartbeats 4000000 in
set_option maxRecDepth 100000 in
theorem kX3_remove (l : Launch) (G : Gl) (P : Nat → Nat) (V : Vt) (w : Nat) (slot : Int) (hw : w < 6) (hB : BV V) (hn0 : 0 ≤ V 4 w 3) (hn1 : V 4 w 3 ≤ 16) (h1 : 0 ≤ slot) (h2 : slot < V 4 w 3) : Met l yX3_remove wsX3_remove ({ frames := 1, cells := 0, slots := 0, locals := 60 }) (va_Pc [.ref (ad G 4 w), .int (iI slot)] (Sg G P V)) (Qk G mkV (fun r P' V' => P' = P ∧ BV V' ∧ V' = up (up (up (up V 5 w (cpI (V 5 w) (V 5 w) (slot + 1) slot (V 4 w 3 - slot - 1))) 6 w (cpI (reP (V 6 w) (V 5 w) slot (V 4 w 3)) (reP (V 6 w) (V 5 w) slot (V 4 w 3)) (slot + 1) slot (V 4 w 3 - slot - 1))) 7 w (cpI (V 7 w) (V 7 w) ((slot + 1) * 6) (slot * 6) ((V 4 w 3 - slot - 1) * 6))) 4 w (updI (V 4 w) 3 (V 4 w 3 - 1)))) 0 0 (mem G) := by
  refine z_met (cc := cX3_remove) (nL := 3) (ret := none) (own := RX3) (by decide +kernel) rfl rfl (Nat.le_of_ble_eq_true rfl) (L := [some (.ref (ad G 4 w)), some (.int (iI slot)), none]) rfl ?_
  intro X E Er0
  have iX3 : ∀ x ∈ wsX30, x ∈ wsX3_remove := by decide +kernel
  have f0 : Cond.fieldLink RX3 21 "SharedStates$States" "size" "I" ∈ wsX3_remove := by decide +kernel
  have f1 : Cond.static yX5_isIndex ∈ wsX3_remove := by decide +kernel
  have f2 : Cond.initialized RX5 ∈ wsX3_remove := by decide +kernel
  have f3 : Cond.fieldLink RX3 9 "SharedStates$States" "numbers" "[I" ∈ wsX3_remove := by decide +kernel
  have f4 : Cond.methodLink RX3 28 arraycopyName ∈ wsX3_remove := by decide +kernel
  have f5 : Cond.native arraycopyName ∈ wsX3_remove := by decide +kernel
  have f6 : Cond.static arraycopyName ∈ wsX3_remove := by decide +kernel
  have f7 : Cond.initialized "java/lang/System" ∈ wsX3_remove := by decide +kernel
  have f8 : Cond.fieldLink RX3 15 "SharedStates$States" "parents" "[I" ∈ wsX3_remove := by decide +kernel
  have f9 : Cond.fieldLink RX3 18 "SharedStates$States" "places" "[I" ∈ wsX3_remove := by decide +kernel
  refine z_iload_n E dX3_remove_0 1 rfl rfl ?_
  refine z_aload_n E dX3_remove_1 0 rfl rfl ?_
  have hr_1 := hB.g 4 w 3 rfl
  refine z_get E (ci := 3) (N := 5) (C := RX3) (T := TX3) (vl_w (by decide) hw) rfl rfl iX3 3 (by decide) rfl f0 rfl dX3_remove_2 ?_
  refine z_callN E (n := 2) (st := []) (host := "SharedStates") [.int (iI slot), .int (iI (V 4 w 3))] (fun U h => nst_X3_41 h) f1 f2 (kX5_isIndex l G P V slot (V 4 w 3) (by omega) (by omega)) gX3_remove_X5_isIndex_n41 rfl ⟨rfl, rfl⟩ (by decide +kernel) ⟨Nat.le_of_ble_eq_true rfl, Nat.le_of_ble_eq_true rfl⟩ rfl rfl (Nat.le_of_ble_eq_true rfl) rfl dX3_remove_5 (z_dtI ?_)
  refine z_ifne_b E 12 dX3_remove_8 rfl (fun c_3 => ?_) (fun c_3 => ?_)
  · skip
    refine z_iload_n E dX3_remove_12 1 rfl rfl ?_
    refine z_iconst E dX3_remove_13 ?_
    refine z_iadd E dX3_remove_14 ?_
    refine z_istore_n E dX3_remove_15 2 rfl (L' := [some (.ref (ad G 4 w)), some (.int (iI slot)), some (.int (iI (slot + 1)))]) (Nat.le_of_ble_eq_true rfl) rfl ?_
    have lp_16_4 : ∀ (fuel : Nat) (k : Int) (Vl_16 : Vt), BV Vl_16 → (slot < k) → (k ≤ V 4 w 3) → (Vl_16 = up V 6 w (reP (V 6 w) (V 5 w) slot k)) → (V 4 w 3 - k : Int).toNat < fuel → Kz X G P Vl_16 0 0 [some (.ref (ad G 4 w)), some (.int (iI slot)), some (.int (iI k))] 16 [] := by
      intro fuel
      induction fuel with
      | zero => intro k Vl_16 hBl_16 hk0 hk1 hVl hf_16; exact absurd hf_16 (Nat.not_lt_zero _)
      | succ fuel ih_16 =>
        intro k Vl_16 hBl_16 hk0 hk1 hVl hf_16
        have g4 : Vl_16 4 w 3 = V 4 w 3 := by rw [hVl]; rfl
        have g5 : Vl_16 5 w slot = V 5 w slot := by rw [hVl]; rfl
        have g6 : Vl_16 6 w slot = V 6 w slot := by rw [hVl, up_s]; exact if_neg (by omega)
        have g6k : Vl_16 6 w k = V 6 w k := by rw [hVl, up_s]; exact if_neg (by omega)
        refine z_iload_n E dX3_remove_16 2 rfl rfl ?_
        refine z_aload_n E dX3_remove_17 0 rfl rfl ?_
        have hr_5 := hBl_16.g 4 w 3 rfl
        refine z_get E (ci := 3) (N := 5) (C := RX3) (T := TX3) (vl_w (by decide) hw) rfl rfl iX3 3 (by decide) rfl f0 rfl dX3_remove_18 ?_
        refine z_icmp_ge E 57 dX3_remove_21 rfl (by omega) (by omega) (fun c_6 => ?_) (fun c_6 => ?_)
        · skip
          refine z_aload_n E dX3_remove_57 0 rfl rfl ?_
          refine z_get E (ci := 3) (N := 5) (C := RX3) (T := TX3) (vl_w (by decide) hw) rfl rfl iX3 3 (by decide) rfl f0 rfl dX3_remove_58 ?_
          refine z_iload_n E dX3_remove_61 1 rfl rfl ?_
          refine z_isub E dX3_remove_62 ?_
          refine z_iconst E dX3_remove_63 ?_
          refine z_isub E dX3_remove_64 ?_
          refine z_istore_n E dX3_remove_65 2 rfl (L' := [some (.ref (ad G 4 w)), some (.int (iI slot)), some (.int (iI (((Vl_16 4 w 3) - slot) - 1)))]) (Nat.le_of_ble_eq_true rfl) rfl ?_
          refine z_aload_n E dX3_remove_66 0 rfl rfl ?_
          refine z_get E (ci := 3) (N := 5) (C := RX3) (T := TX3) (vl_w (by decide) hw) rfl rfl iX3 0 (by decide) rfl f3 rfl dX3_remove_67 ?_
          refine z_iload_n E dX3_remove_70 1 rfl rfl ?_
          refine z_iconst E dX3_remove_71 ?_
          refine z_iadd E dX3_remove_72 ?_
          refine z_aload_n E dX3_remove_73 0 rfl rfl ?_
          refine z_get E (ci := 3) (N := 5) (C := RX3) (T := TX3) (vl_w (by decide) hw) rfl rfl iX3 0 (by decide) rfl f3 rfl dX3_remove_74 ?_
          refine z_iload_n E dX3_remove_77 1 rfl rfl ?_
          refine z_iload_n E dX3_remove_78 2 rfl rfl ?_
          refine z_acopy E (st := []) f4 f5 f6 f7 (vl_w (by decide) hw) (vl_w (by decide) hw) 16 (by omega) 16 (by omega) (fun _ => rfl) (fun _ => rfl) (by omega) (by omega) (by omega) (by omega) (by omega) (Nat.le_of_ble_eq_true rfl) (by decide +kernel) rfl dX3_remove_79 ?_
          obtain ⟨V7, hV7⟩ : ∃ Z : Vt, Z = up Vl_16 5 w (cpI (Vl_16 5 w) (Vl_16 5 w) (slot + 1) slot (((Vl_16 4 w 3) - slot) - 1)) := ⟨_, rfl⟩
          rw [← hV7]
          have hB7 : BV V7 := hV7 ▸ BV_upC hBl_16 rfl
          have q4_7 : V7 4 w 3 = V 4 w 3 := by rw [hV7, hVl]; rfl
          refine z_aload_n E dX3_remove_82 0 rfl rfl ?_
          refine z_get E (ci := 3) (N := 5) (C := RX3) (T := TX3) (vl_w (by decide) hw) rfl rfl iX3 1 (by decide) rfl f8 rfl dX3_remove_83 ?_
          refine z_iload_n E dX3_remove_86 1 rfl rfl ?_
          refine z_iconst E dX3_remove_87 ?_
          refine z_iadd E dX3_remove_88 ?_
          refine z_aload_n E dX3_remove_89 0 rfl rfl ?_
          refine z_get E (ci := 3) (N := 5) (C := RX3) (T := TX3) (vl_w (by decide) hw) rfl rfl iX3 1 (by decide) rfl f8 rfl dX3_remove_90 ?_
          refine z_iload_n E dX3_remove_93 1 rfl rfl ?_
          refine z_iload_n E dX3_remove_94 2 rfl rfl ?_
          refine z_acopy E (st := []) f4 f5 f6 f7 (vl_w (by decide) hw) (vl_w (by decide) hw) 16 (by omega) 16 (by omega) (fun _ => rfl) (fun _ => rfl) (by omega) (by omega) (by omega) (by omega) (by omega) (Nat.le_of_ble_eq_true rfl) (by decide +kernel) rfl dX3_remove_95 ?_
          obtain ⟨V8, hV8⟩ : ∃ Z : Vt, Z = up V7 6 w (cpI (V7 6 w) (V7 6 w) (slot + 1) slot (((Vl_16 4 w 3) - slot) - 1)) := ⟨_, rfl⟩
          rw [← hV8]
          have hB8 : BV V8 := hV8 ▸ BV_upC hB7 rfl
          have q4_8 : V8 4 w 3 = V 4 w 3 := by rw [hV8, hV7, hVl]; rfl
          refine z_aload_n E dX3_remove_98 0 rfl rfl ?_
          refine z_get E (ci := 3) (N := 5) (C := RX3) (T := TX3) (vl_w (by decide) hw) rfl rfl iX3 2 (by decide) rfl f9 rfl dX3_remove_99 ?_
          refine z_iload_n E dX3_remove_102 1 rfl rfl ?_
          refine z_iconst E dX3_remove_103 ?_
          refine z_iadd E dX3_remove_104 ?_
          refine z_bipush E dX3_remove_105 rfl ?_
          refine z_imul E dX3_remove_107 ?_
          refine z_aload_n E dX3_remove_108 0 rfl rfl ?_
          refine z_get E (ci := 3) (N := 5) (C := RX3) (T := TX3) (vl_w (by decide) hw) rfl rfl iX3 2 (by decide) rfl f9 rfl dX3_remove_109 ?_
          refine z_iload_n E dX3_remove_112 1 rfl rfl ?_
          refine z_bipush E dX3_remove_113 rfl ?_
          refine z_imul E dX3_remove_115 ?_
          refine z_iload_n E dX3_remove_116 2 rfl rfl ?_
          refine z_bipush E dX3_remove_117 rfl ?_
          refine z_imul E dX3_remove_119 ?_
          refine z_acopy E (st := []) f4 f5 f6 f7 (vl_w (by decide) hw) (vl_w (by decide) hw) 96 (by omega) 96 (by omega) (fun _ => rfl) (fun _ => rfl) (by omega) (by omega) (by omega) (by omega) (by omega) (Nat.le_of_ble_eq_true rfl) (by decide +kernel) rfl dX3_remove_120 ?_
          obtain ⟨V9, hV9⟩ : ∃ Z : Vt, Z = up V8 7 w (cpI (V8 7 w) (V8 7 w) ((slot + 1) * 6) (slot * 6) ((((Vl_16 4 w 3) - slot) - 1) * 6)) := ⟨_, rfl⟩
          rw [← hV9]
          have hB9 : BV V9 := hV9 ▸ BV_upC hB8 rfl
          have q4_9 : V9 4 w 3 = V 4 w 3 := by rw [hV9, hV8, hV7, hVl]; rfl
          refine z_aload_n E dX3_remove_123 0 rfl rfl ?_
          refine z_dup E dX3_remove_124 rfl ?_
          have hr_10 := hB9.g 4 w 3 rfl
          refine z_get E (ci := 3) (N := 5) (C := RX3) (T := TX3) (vl_w (by decide) hw) rfl rfl iX3 3 (by decide) rfl f0 rfl dX3_remove_125 ?_
          refine z_iconst E dX3_remove_128 ?_
          refine z_isub E dX3_remove_129 ?_
          refine z_put E (ci := 3) (N := 5) (C := RX3) (T := TX3) (ty := .int) (vl_w (by decide) hw) (updI (V9 4 w) 3 ((V9 4 w 3) - 1)) rfl rfl iX3 tyX3 tyX3_ok nmX3 3 (by decide) rfl f0 rfl rfl rfl rfl (Nat.le_of_ble_eq_true rfl) rfl dX3_remove_130 ?_
          obtain ⟨V11, hV11⟩ : ∃ Z : Vt, Z = up V9 4 w (updI (V9 4 w) 3 ((V9 4 w 3) - 1)) := ⟨_, rfl⟩
          rw [← hV11]
          have hB11 : BV V11 := hV11 ▸ BV_up hB9 (by intro _; omega)
          exact z_vret E Er0 dX3_remove_133 (⟨rfl, hB11, by rw [hV11, hV9, hV8, hV7, hVl, show k = V 4 w 3 by omega]; simp only [up_s, up_r (show (6 : Nat) ≠ 5 by decide), up_r (show (5 : Nat) ≠ 6 by decide), up_r (show (7 : Nat) ≠ 5 by decide), up_r (show (7 : Nat) ≠ 6 by decide), up_r (show (4 : Nat) ≠ 5 by decide), up_r (show (4 : Nat) ≠ 6 by decide), up_r (show (4 : Nat) ≠ 7 by decide)]; rw [up_comm V 6 5 w w _ _ (by omega), upup]⟩)
        · skip
          refine z_aload_n E dX3_remove_24 0 rfl rfl ?_
          refine z_get E (ci := 3) (N := 5) (C := RX3) (T := TX3) (vl_w (by decide) hw) rfl rfl iX3 1 (by decide) rfl f8 rfl dX3_remove_25 ?_
          refine z_iload_n E dX3_remove_28 2 rfl rfl ?_
          refine z_iald E (vl_w (by decide) hw) 16 rfl (by omega) (by omega) (by omega) dX3_remove_29 ?_
          have hr_12 := hBl_16.g 6 w k rfl
          refine z_aload_n E dX3_remove_30 0 rfl rfl ?_
          refine z_get E (ci := 3) (N := 5) (C := RX3) (T := TX3) (vl_w (by decide) hw) rfl rfl iX3 0 (by decide) rfl f3 rfl dX3_remove_31 ?_
          refine z_iload_n E dX3_remove_34 1 rfl rfl ?_
          refine z_iald E (vl_w (by decide) hw) 16 rfl (by omega) (by omega) (by omega) dX3_remove_35 ?_
          have hr_13 := hBl_16.g 5 w slot rfl
          refine z_icmp_ne E 51 dX3_remove_36 rfl (by omega) (by omega) (fun c_14 => ?_) (fun c_14 => ?_)
          · skip
            refine z_iinc E k dX3_remove_51 (L' := [some (.ref (ad G 4 w)), some (.int (iI slot)), some (.int (iI (k + 1)))]) (Nat.le_of_ble_eq_true rfl) rfl rfl ?_
            refine z_goto E 16 dX3_remove_54 rfl ?_
            exact ih_16 (k + 1) Vl_16 hBl_16 (by omega) (by omega) (by first | (rw [hVl, up_s]; rw [show reP (V 6 w) (V 5 w) slot k slot = V 6 w slot from if_neg (by omega), reP_t (by omega) (by omega)]; exact upup _ _ _ _ _) | (rw [hVl, reP_f (by omega)])) (by omega)
          · skip
            refine z_aload_n E dX3_remove_39 0 rfl rfl ?_
            refine z_get E (ci := 3) (N := 5) (C := RX3) (T := TX3) (vl_w (by decide) hw) rfl rfl iX3 1 (by decide) rfl f8 rfl dX3_remove_40 ?_
            refine z_iload_n E dX3_remove_43 2 rfl rfl ?_
            refine z_aload_n E dX3_remove_44 0 rfl rfl ?_
            refine z_get E (ci := 3) (N := 5) (C := RX3) (T := TX3) (vl_w (by decide) hw) rfl rfl iX3 1 (by decide) rfl f8 rfl dX3_remove_45 ?_
            refine z_iload_n E dX3_remove_48 1 rfl rfl ?_
            refine z_iald E (vl_w (by decide) hw) 16 rfl (by omega) (by omega) (by omega) dX3_remove_49 ?_
            have hr_15 := hBl_16.g 6 w slot rfl
            refine z_iast E (vl_w (by decide) hw) 16 (fun _ => rfl) (by omega) (by omega) (by omega) dX3_remove_50 ?_
            obtain ⟨V16, hV16⟩ : ∃ Z : Vt, Z = up Vl_16 6 w (updI (Vl_16 6 w) k (Vl_16 6 w slot)) := ⟨_, rfl⟩
            rw [← hV16]
            have hB16 : BV V16 := hV16 ▸ BV_up hBl_16 (by intro _; omega)
            refine z_iinc E k dX3_remove_51 (L' := [some (.ref (ad G 4 w)), some (.int (iI slot)), some (.int (iI (k + 1)))]) (Nat.le_of_ble_eq_true rfl) rfl rfl ?_
            refine z_goto E 16 dX3_remove_54 rfl ?_
            exact ih_16 (k + 1) V16 hB16 (by omega) (by omega) (by first | (rw [hV16, hVl, up_s]; rw [show reP (V 6 w) (V 5 w) slot k slot = V 6 w slot from if_neg (by omega), reP_t (by omega) (by omega)]; exact upup _ _ _ _ _) | (rw [hVl, reP_f (by omega)])) (by omega)
    exact lp_16_4 ((V 4 w 3 - (slot + 1) : Int).toNat + 1) (slot + 1) V hB (by omega) (by omega) (by rw [reP_0]; exact up_self.symm) (Nat.lt_succ_self _)
  · skip
    exfalso; omega
