/-! layer 1: tally -/
theorem dX7_clearPulls_0 : decode cX7_clearPulls 0 = .ok (.aload_n 0, 1) := by decide +kernel
theorem dX7_clearPulls_1 : decode cX7_clearPulls 1 = .ok (.getfield 9, 3) := by decide +kernel
theorem dX7_clearPulls_4 : decode cX7_clearPulls 4 = .ok (.iconst (-1), 1) := by decide +kernel
theorem dX7_clearPulls_5 : decode cX7_clearPulls 5 = .ok (.invokestatic 37, 3) := by decide +kernel
theorem dX7_clearPulls_8 : decode cX7_clearPulls 8 = .ok (.aload_n 0, 1) := by decide +kernel
theorem dX7_clearPulls_9 : decode cX7_clearPulls 9 = .ok (.iconst 0, 1) := by decide +kernel
theorem dX7_clearPulls_10 : decode cX7_clearPulls 10 = .ok (.putfield 43, 3) := by decide +kernel
theorem dX7_clearPulls_13 : decode cX7_clearPulls 13 = .ok (.return_, 1) := by decide +kernel
def mX7_clearPulls (n : Nat) (a : Nat) (μ : Mem) : Option (Unit × Mem) :=
  (gA μ 8 a 6).bind fun x1 =>
  (mJ7_fill_53178 n x1 (-1) μ).bind fun p5 =>
  (pI p5.2 8 a 7 0).bind fun μ10 =>
  some ((), μ10)
set_option maxRecDepth 100000 in
set_option maxHeartbeats 4000000 in
theorem cX7_clearPulls_ok (n : Nat) (a : Nat) (μ : Mem) : Mc yX7_clearPulls cX7_clearPulls 1 none 1 23 eV [aA a] μ (mX7_clearPulls n a μ) := by
  refine mc_of (L0 := [some (aA a)]) (k := 0) (by decide) rfl rfl (fun X Γ => ?_)
  unfold mX7_clearPulls
  refine sn_aload_n dX7_clearPulls_0 rfl ?_
  refine sn_getA (ci := 7) (j := 6) dX7_clearPulls_1 fl_X7_9 (by decide) (fun x1 => ?_)
  refine sn_iconst dX7_clearPulls_4 ?_
  refine sn_callSV (vs := [aA x1, aI (-1)]) (cJ7_fill_53178_ok n x1 (-1) μ) dX7_clearPulls_5 cw_X7_37 rfl (by decide) (by decide) (Nat.le_of_ble_eq_true rfl) (fun p5 => ?_)
  refine sn_aload_n dX7_clearPulls_8 rfl ?_
  refine sn_iconst dX7_clearPulls_9 ?_
  refine sn_putI (ci := 7) (j := 7) dX7_clearPulls_10 fl_X7_43 rfl (fun q h => by cases h; rfl) (fun μ10 => ?_)
  exact sn_vret dX7_clearPulls_13
theorem dX7_begin_0 : decode cX7_begin 0 = .ok (.aload_n 0, 1) := by decide +kernel
theorem dX7_begin_1 : decode cX7_begin 1 = .ok (.iconst (-1), 1) := by decide +kernel
theorem dX7_begin_2 : decode cX7_begin 2 = .ok (.putfield 15, 3) := by decide +kernel
theorem dX7_begin_5 : decode cX7_begin 5 = .ok (.aload_n 0, 1) := by decide +kernel
theorem dX7_begin_6 : decode cX7_begin 6 = .ok (.iconst 0, 1) := by decide +kernel
theorem dX7_begin_7 : decode cX7_begin 7 = .ok (.putfield 19, 3) := by decide +kernel
theorem dX7_begin_10 : decode cX7_begin 10 = .ok (.aload_n 0, 1) := by decide +kernel
theorem dX7_begin_11 : decode cX7_begin 11 = .ok (.iconst 0, 1) := by decide +kernel
theorem dX7_begin_12 : decode cX7_begin 12 = .ok (.putfield 22, 3) := by decide +kernel
theorem dX7_begin_15 : decode cX7_begin 15 = .ok (.aload_n 0, 1) := by decide +kernel
theorem dX7_begin_16 : decode cX7_begin 16 = .ok (.iconst 0, 1) := by decide +kernel
theorem dX7_begin_17 : decode cX7_begin 17 = .ok (.putfield 25, 3) := by decide +kernel
theorem dX7_begin_20 : decode cX7_begin 20 = .ok (.aload_n 0, 1) := by decide +kernel
theorem dX7_begin_21 : decode cX7_begin 21 = .ok (.iconst 0, 1) := by decide +kernel
theorem dX7_begin_22 : decode cX7_begin 22 = .ok (.putfield 28, 3) := by decide +kernel
theorem dX7_begin_25 : decode cX7_begin 25 = .ok (.aload_n 0, 1) := by decide +kernel
theorem dX7_begin_26 : decode cX7_begin 26 = .ok (.iconst 0, 1) := by decide +kernel
theorem dX7_begin_27 : decode cX7_begin 27 = .ok (.putfield 31, 3) := by decide +kernel
theorem dX7_begin_30 : decode cX7_begin 30 = .ok (.aload_n 0, 1) := by decide +kernel
theorem dX7_begin_31 : decode cX7_begin 31 = .ok (.invokevirtual 34, 3) := by decide +kernel
theorem dX7_begin_34 : decode cX7_begin 34 = .ok (.return_, 1) := by decide +kernel
def mX7_begin (n : Nat) (a : Nat) (μ : Mem) : Option (Unit × Mem) :=
  (pI μ 8 a 0 (-1)).bind fun μ2 =>
  (pI μ2 8 a 1 0).bind fun μ7 =>
  (pI μ7 8 a 2 0).bind fun μ12 =>
  (pI μ12 8 a 3 0).bind fun μ17 =>
  (pI μ17 8 a 4 0).bind fun μ22 =>
  (pI μ22 8 a 5 0).bind fun μ27 =>
  (inv μ27 8 a (mX7_clearPulls n a μ27)).bind fun p31 =>
  some ((), p31.2)
set_option maxRecDepth 100000 in
set_option maxHeartbeats 4000000 in
theorem cX7_begin_ok (n : Nat) (a : Nat) (μ : Mem) : Mc yX7_begin cX7_begin 1 none 2 43 eV [aA a] μ (mX7_begin n a μ) := by
  refine mc_of (L0 := [some (aA a)]) (k := 0) (by decide) rfl rfl (fun X Γ => ?_)
  unfold mX7_begin
  refine sn_aload_n dX7_begin_0 rfl ?_
  refine sn_iconst dX7_begin_1 ?_
  refine sn_putI (ci := 7) (j := 0) dX7_begin_2 fl_X7_15 rfl (fun q h => by cases h; rfl) (fun μ2 => ?_)
  refine sn_aload_n dX7_begin_5 rfl ?_
  refine sn_iconst dX7_begin_6 ?_
  refine sn_putI (ci := 7) (j := 1) dX7_begin_7 fl_X7_19 rfl (fun q h => by cases h; rfl) (fun μ7 => ?_)
  refine sn_aload_n dX7_begin_10 rfl ?_
  refine sn_iconst dX7_begin_11 ?_
  refine sn_putI (ci := 7) (j := 2) dX7_begin_12 fl_X7_22 rfl (fun q h => by cases h; rfl) (fun μ12 => ?_)
  refine sn_aload_n dX7_begin_15 rfl ?_
  refine sn_iconst dX7_begin_16 ?_
  refine sn_putI (ci := 7) (j := 3) dX7_begin_17 fl_X7_25 rfl (fun q h => by cases h; rfl) (fun μ17 => ?_)
  refine sn_aload_n dX7_begin_20 rfl ?_
  refine sn_iconst dX7_begin_21 ?_
  refine sn_putI (ci := 7) (j := 4) dX7_begin_22 fl_X7_28 rfl (fun q h => by cases h; rfl) (fun μ22 => ?_)
  refine sn_aload_n dX7_begin_25 rfl ?_
  refine sn_iconst dX7_begin_26 ?_
  refine sn_putI (ci := 7) (j := 5) dX7_begin_27 fl_X7_31 rfl (fun q h => by cases h; rfl) (fun μ27 => ?_)
  refine sn_aload_n dX7_begin_30 rfl ?_
  refine sn_callVV (vs := []) (ci := 7) (cX7_clearPulls_ok n a μ27) dX7_begin_31 cw_X7_34 rfl rfl rfl (by decide) (by decide) (Nat.le_of_ble_eq_true rfl) (fun p31 => ?_)
  exact sn_vret dX7_begin_34
theorem dX7_addPull_0 : decode cX7_addPull 0 = .ok (.aload_n 0, 1) := by decide +kernel
theorem dX7_addPull_1 : decode cX7_addPull 1 = .ok (.getfield 9, 3) := by decide +kernel
theorem dX7_addPull_4 : decode cX7_addPull 4 = .ok (.iload_n 1, 1) := by decide +kernel
theorem dX7_addPull_5 : decode cX7_addPull 5 = .ok (.iload_n 2, 1) := by decide +kernel
theorem dX7_addPull_6 : decode cX7_addPull 6 = .ok (.iastore, 1) := by decide +kernel
theorem dX7_addPull_7 : decode cX7_addPull 7 = .ok (.aload_n 0, 1) := by decide +kernel
theorem dX7_addPull_8 : decode cX7_addPull 8 = .ok (.dup, 1) := by decide +kernel
theorem dX7_addPull_9 : decode cX7_addPull 9 = .ok (.getfield 43, 3) := by decide +kernel
theorem dX7_addPull_12 : decode cX7_addPull 12 = .ok (.iconst 1, 1) := by decide +kernel
theorem dX7_addPull_13 : decode cX7_addPull 13 = .ok (.iadd, 1) := by decide +kernel
theorem dX7_addPull_14 : decode cX7_addPull 14 = .ok (.putfield 43, 3) := by decide +kernel
theorem dX7_addPull_17 : decode cX7_addPull 17 = .ok (.return_, 1) := by decide +kernel
def mX7_addPull (n : Nat) (a : Nat) (b1 : Int) (b2 : Int) (μ : Mem) : Option (Unit × Mem) :=
  (gA μ 8 a 6).bind fun x1 =>
  (stI μ 0 x1 b1 b2).bind fun μ6 =>
  (gI μ6 8 a 7).bind fun x9 =>
  (pI μ6 8 a 7 (x9 + 1)).bind fun μ14 =>
  some ((), μ14)
set_option maxRecDepth 100000 in
set_option maxHeartbeats 4000000 in
theorem cX7_addPull_ok (n : Nat) (a : Nat) (b1 : Int) (b2 : Int) (μ : Mem) : Mc yX7_addPull cX7_addPull 3 none 0 0 eV [aA a, aI b1, aI b2] μ (mX7_addPull n a b1 b2 μ) := by
  refine mc_of (L0 := [some (aA a), some (aI b1), some (aI b2)]) (k := 0) (by decide) rfl rfl (fun X Γ => ?_)
  unfold mX7_addPull
  refine sn_aload_n dX7_addPull_0 rfl ?_
  refine sn_getA (ci := 7) (j := 6) dX7_addPull_1 fl_X7_9 (by decide) (fun x1 => ?_)
  refine sn_iload_n dX7_addPull_4 rfl ?_
  refine sn_iload_n dX7_addPull_5 rfl ?_
  refine sn_iast dX7_addPull_6 (fun μ6 => ?_)
  refine sn_aload_n dX7_addPull_7 rfl ?_
  refine sn_dup dX7_addPull_8 rfl ?_
  refine sn_getI (ci := 7) (j := 7) dX7_addPull_9 fl_X7_43 rfl (fun x9 => ?_)
  refine sn_iconst dX7_addPull_12 ?_
  refine sn_iadd dX7_addPull_13 ?_
  refine sn_putI (ci := 7) (j := 7) dX7_addPull_14 fl_X7_43 rfl (fun q h => by cases h; rfl) (fun μ14 => ?_)
  exact sn_vret dX7_addPull_17
theorem dX7_endHour_0 : decode cX7_endHour 0 = .ok (.aload_n 0, 1) := by decide +kernel
theorem dX7_endHour_1 : decode cX7_endHour 1 = .ok (.dup, 1) := by decide +kernel
theorem dX7_endHour_2 : decode cX7_endHour 2 = .ok (.getfield 25, 3) := by decide +kernel
theorem dX7_endHour_5 : decode cX7_endHour 5 = .ok (.aload_n 1, 1) := by decide +kernel
theorem dX7_endHour_6 : decode cX7_endHour 6 = .ok (.aload_n 0, 1) := by decide +kernel
theorem dX7_endHour_7 : decode cX7_endHour 7 = .ok (.getfield 9, 3) := by decide +kernel
theorem dX7_endHour_10 : decode cX7_endHour 10 = .ok (.invokevirtual 63, 3) := by decide +kernel
theorem dX7_endHour_13 : decode cX7_endHour 13 = .ok (.iadd, 1) := by decide +kernel
theorem dX7_endHour_14 : decode cX7_endHour 14 = .ok (.putfield 25, 3) := by decide +kernel
theorem dX7_endHour_17 : decode cX7_endHour 17 = .ok (.aload_n 0, 1) := by decide +kernel
theorem dX7_endHour_18 : decode cX7_endHour 18 = .ok (.dup, 1) := by decide +kernel
theorem dX7_endHour_19 : decode cX7_endHour 19 = .ok (.getfield 22, 3) := by decide +kernel
theorem dX7_endHour_22 : decode cX7_endHour 22 = .ok (.iconst 1, 1) := by decide +kernel
theorem dX7_endHour_23 : decode cX7_endHour 23 = .ok (.iadd, 1) := by decide +kernel
theorem dX7_endHour_24 : decode cX7_endHour 24 = .ok (.putfield 22, 3) := by decide +kernel
theorem dX7_endHour_27 : decode cX7_endHour 27 = .ok (.aload_n 0, 1) := by decide +kernel
theorem dX7_endHour_28 : decode cX7_endHour 28 = .ok (.dup, 1) := by decide +kernel
theorem dX7_endHour_29 : decode cX7_endHour 29 = .ok (.getfield 28, 3) := by decide +kernel
theorem dX7_endHour_32 : decode cX7_endHour 32 = .ok (.aload_n 0, 1) := by decide +kernel
theorem dX7_endHour_33 : decode cX7_endHour 33 = .ok (.getfield 43, 3) := by decide +kernel
theorem dX7_endHour_36 : decode cX7_endHour 36 = .ok (.iadd, 1) := by decide +kernel
theorem dX7_endHour_37 : decode cX7_endHour 37 = .ok (.putfield 28, 3) := by decide +kernel
theorem dX7_endHour_40 : decode cX7_endHour 40 = .ok (.aload_n 0, 1) := by decide +kernel
theorem dX7_endHour_41 : decode cX7_endHour 41 = .ok (.invokevirtual 34, 3) := by decide +kernel
theorem dX7_endHour_44 : decode cX7_endHour 44 = .ok (.return_, 1) := by decide +kernel
def mX7_endHour (n : Nat) (a : Nat) (b1 : Nat) (μ : Mem) : Option (Unit × Mem) :=
  (gI μ 8 a 3).bind fun x2 =>
  (gA μ 8 a 6).bind fun x7 =>
  (inv μ 2 b1 (mX1_goOn n b1 x7 μ)).bind fun p10 =>
  (pI p10.2 8 a 3 (x2 + p10.1)).bind fun μ14 =>
  (gI μ14 8 a 2).bind fun x19 =>
  (pI μ14 8 a 2 (x19 + 1)).bind fun μ24 =>
  (gI μ24 8 a 4).bind fun x29 =>
  (gI μ24 8 a 7).bind fun x33 =>
  (pI μ24 8 a 4 (x29 + x33)).bind fun μ37 =>
  (inv μ37 8 a (mX7_clearPulls n a μ37)).bind fun p41 =>
  some ((), p41.2)
set_option maxRecDepth 100000 in
set_option maxHeartbeats 4000000 in
theorem cX7_endHour_ok (n : Nat) (a : Nat) (b1 : Nat) (μ : Mem) : Mc yX7_endHour cX7_endHour 2 none 4 110 eV [aA a, aA b1] μ (mX7_endHour n a b1 μ) := by
  refine mc_of (L0 := [some (aA a), some (aA b1)]) (k := 0) (by decide) rfl rfl (fun X Γ => ?_)
  unfold mX7_endHour
  refine sn_aload_n dX7_endHour_0 rfl ?_
  refine sn_dup dX7_endHour_1 rfl ?_
  refine sn_getI (ci := 7) (j := 3) dX7_endHour_2 fl_X7_25 rfl (fun x2 => ?_)
  refine sn_aload_n dX7_endHour_5 rfl ?_
  refine sn_aload_n dX7_endHour_6 rfl ?_
  refine sn_getA (ci := 7) (j := 6) dX7_endHour_7 fl_X7_9 (by decide) (fun x7 => ?_)
  refine sn_callVI (vs := [aA x7]) (ci := 1) (cX1_goOn_ok n b1 x7 μ) dX7_endHour_10 cw_X7_63 rfl rfl rfl (by decide) (by decide) (Nat.le_of_ble_eq_true rfl) (fun p10 => ?_)
  refine sn_iadd dX7_endHour_13 ?_
  refine sn_putI (ci := 7) (j := 3) dX7_endHour_14 fl_X7_25 rfl (fun q h => by cases h; rfl) (fun μ14 => ?_)
  refine sn_aload_n dX7_endHour_17 rfl ?_
  refine sn_dup dX7_endHour_18 rfl ?_
  refine sn_getI (ci := 7) (j := 2) dX7_endHour_19 fl_X7_22 rfl (fun x19 => ?_)
  refine sn_iconst dX7_endHour_22 ?_
  refine sn_iadd dX7_endHour_23 ?_
  refine sn_putI (ci := 7) (j := 2) dX7_endHour_24 fl_X7_22 rfl (fun q h => by cases h; rfl) (fun μ24 => ?_)
  refine sn_aload_n dX7_endHour_27 rfl ?_
  refine sn_dup dX7_endHour_28 rfl ?_
  refine sn_getI (ci := 7) (j := 4) dX7_endHour_29 fl_X7_28 rfl (fun x29 => ?_)
  refine sn_aload_n dX7_endHour_32 rfl ?_
  refine sn_getI (ci := 7) (j := 7) dX7_endHour_33 fl_X7_43 rfl (fun x33 => ?_)
  refine sn_iadd dX7_endHour_36 ?_
  refine sn_putI (ci := 7) (j := 4) dX7_endHour_37 fl_X7_28 rfl (fun q h => by cases h; rfl) (fun μ37 => ?_)
  refine sn_aload_n dX7_endHour_40 rfl ?_
  refine sn_callVV (vs := []) (ci := 7) (cX7_clearPulls_ok n a μ37) dX7_endHour_41 cw_X7_34 rfl rfl rfl (by decide) (by decide) (Nat.le_of_ble_eq_true rfl) (fun p41 => ?_)
  exact sn_vret dX7_endHour_44
theorem dX7_doHour_0 : decode cX7_doHour 0 = .ok (.aload_n 0, 1) := by decide +kernel
theorem dX7_doHour_1 : decode cX7_doHour 1 = .ok (.invokevirtual 46, 3) := by decide +kernel
theorem dX7_doHour_4 : decode cX7_doHour 4 = .ok (.aload_n 1, 1) := by decide +kernel
theorem dX7_doHour_5 : decode cX7_doHour 5 = .ok (.iload_n 2, 1) := by decide +kernel
theorem dX7_doHour_6 : decode cX7_doHour 6 = .ok (.invokevirtual 49, 3) := by decide +kernel
theorem dX7_doHour_9 : decode cX7_doHour 9 = .ok (.ifCond .eq 9, 3) := by decide +kernel
theorem dX7_doHour_12 : decode cX7_doHour 12 = .ok (.aload_n 0, 1) := by decide +kernel
theorem dX7_doHour_13 : decode cX7_doHour 13 = .ok (.iload_n 2, 1) := by decide +kernel
theorem dX7_doHour_14 : decode cX7_doHour 14 = .ok (.iload_n 3, 1) := by decide +kernel
theorem dX7_doHour_15 : decode cX7_doHour 15 = .ok (.invokevirtual 55, 3) := by decide +kernel
theorem dX7_doHour_18 : decode cX7_doHour 18 = .ok (.aload_n 0, 1) := by decide +kernel
theorem dX7_doHour_19 : decode cX7_doHour 19 = .ok (.aload_n 1, 1) := by decide +kernel
theorem dX7_doHour_20 : decode cX7_doHour 20 = .ok (.invokevirtual 59, 3) := by decide +kernel
theorem dX7_doHour_23 : decode cX7_doHour 23 = .ok (.return_, 1) := by decide +kernel
def mX7_doHour (n : Nat) (a : Nat) (b1 : Nat) (b2 : Int) (b3 : Int) (μ : Mem) : Option (Unit × Mem) :=
  (inv μ 8 a (mX7_begin n a μ)).bind fun p1 =>
  (inv p1.2 2 b1 (mX1_hasHouse n b1 b2 p1.2)).bind fun p6 =>
  jn (fun (v18 : Unit) (μ18 : Mem) =>
  (inv μ18 8 a (mX7_endHour n a b1 μ18)).bind fun p20 =>
  some ((), p20.2)) (fun j18 =>
  if eq32 p6.1 0 then
    j18 () p6.2
  else
  (inv p6.2 8 a (mX7_addPull n a b2 b3 p6.2)).bind fun p15 =>
  j18 () p15.2)
set_option maxRecDepth 100000 in
set_option maxHeartbeats 4000000 in
theorem cX7_doHour_ok (n : Nat) (a : Nat) (b1 : Nat) (b2 : Int) (b3 : Int) (μ : Mem) : Mc yX7_doHour cX7_doHour 4 none 5 131 eV [aA a, aA b1, aI b2, aI b3] μ (mX7_doHour n a b1 b2 b3 μ) := by
  refine mc_of (L0 := [some (aA a), some (aA b1), some (aI b2), some (aI b3)]) (k := 0) (by decide) rfl rfl (fun X Γ => ?_)
  unfold mX7_doHour
  refine sn_aload_n dX7_doHour_0 rfl ?_
  refine sn_callVV (vs := []) (ci := 7) (cX7_begin_ok n a μ) dX7_doHour_1 cw_X7_46 rfl rfl rfl (by decide) (by decide) (Nat.le_of_ble_eq_true rfl) (fun p1 => ?_)
  refine sn_aload_n dX7_doHour_4 rfl ?_
  refine sn_iload_n dX7_doHour_5 rfl ?_
  refine sn_callVI (vs := [aI b2]) (ci := 1) (cX1_hasHouse_ok n b1 b2 p1.2) dX7_doHour_6 cw_X7_49 rfl rfl rfl (by decide) (by decide) (Nat.le_of_ble_eq_true rfl) (fun p6 => ?_)
  refine sn_jn (pcj := 18) (La := fun v18 : Unit => [some (aA a), some (aA b1), none, none]) (Sa := fun v18 : Unit => []) ?_ ?_
  · intro v18 μ18
    refine sn_aload_n dX7_doHour_18 rfl ?_
    refine sn_aload_n dX7_doHour_19 rfl ?_
    refine sn_callVV (vs := [aA b1]) (ci := 7) (cX7_endHour_ok n a b1 μ18) dX7_doHour_20 cw_X7_59 rfl rfl rfl (by decide) (by decide) (Nat.le_of_ble_eq_true rfl) (fun p20 => ?_)
    exact sn_vret dX7_doHour_23
  intro j18 hj18
  refine sn_if_eq (tgt := 18) dX7_doHour_9 (by decide) ?_ ?_
  · exact sn_mask (L' := [some (aA a), some (aA b1), none, none]) [true, true, false, false] rfl (hj18 () p6.2)
  · refine sn_aload_n dX7_doHour_12 rfl ?_
    refine sn_iload_n dX7_doHour_13 rfl ?_
    refine sn_iload_n dX7_doHour_14 rfl ?_
    refine sn_callVV (vs := [aI b2, aI b3]) (ci := 7) (cX7_addPull_ok n a b2 b3 p6.2) dX7_doHour_15 cw_X7_55 rfl rfl rfl (by decide) (by decide) (Nat.le_of_ble_eq_true rfl) (fun p15 => ?_)
    exact sn_mask (L' := [some (aA a), some (aA b1), none, none]) [true, true, false, false] rfl (hj18 () p15.2)
theorem dX7_firstToLift_0 : decode cX7_firstToLift 0 = .ok (.iconst 0, 1) := by decide +kernel
theorem dX7_firstToLift_1 : decode cX7_firstToLift 1 = .ok (.istore_n 2, 1) := by decide +kernel
theorem dX7_firstToLift_2 : decode cX7_firstToLift 2 = .ok (.iload_n 2, 1) := by decide +kernel
theorem dX7_firstToLift_3 : decode cX7_firstToLift 3 = .ok (.aload_n 0, 1) := by decide +kernel
theorem dX7_firstToLift_4 : decode cX7_firstToLift 4 = .ok (.getfield 108, 3) := by decide +kernel
theorem dX7_firstToLift_7 : decode cX7_firstToLift 7 = .ok (.if_icmp .ge 52, 3) := by decide +kernel
theorem dX7_firstToLift_10 : decode cX7_firstToLift 10 = .ok (.aload_n 0, 1) := by decide +kernel
theorem dX7_firstToLift_11 : decode cX7_firstToLift 11 = .ok (.getfield 111, 3) := by decide +kernel
theorem dX7_firstToLift_14 : decode cX7_firstToLift 14 = .ok (.iconst 2, 1) := by decide +kernel
theorem dX7_firstToLift_15 : decode cX7_firstToLift 15 = .ok (.iload_n 2, 1) := by decide +kernel
theorem dX7_firstToLift_16 : decode cX7_firstToLift 16 = .ok (.imul, 1) := by decide +kernel
theorem dX7_firstToLift_17 : decode cX7_firstToLift 17 = .ok (.iaload, 1) := by decide +kernel
theorem dX7_firstToLift_18 : decode cX7_firstToLift 18 = .ok (.iload_n 1, 1) := by decide +kernel
theorem dX7_firstToLift_19 : decode cX7_firstToLift 19 = .ok (.if_icmp .ne 9, 3) := by decide +kernel
theorem dX7_firstToLift_22 : decode cX7_firstToLift 22 = .ok (.iconst 2, 1) := by decide +kernel
theorem dX7_firstToLift_23 : decode cX7_firstToLift 23 = .ok (.iload_n 2, 1) := by decide +kernel
theorem dX7_firstToLift_24 : decode cX7_firstToLift 24 = .ok (.imul, 1) := by decide +kernel
theorem dX7_firstToLift_25 : decode cX7_firstToLift 25 = .ok (.goto 8, 3) := by decide +kernel
theorem dX7_firstToLift_28 : decode cX7_firstToLift 28 = .ok (.iconst 2, 1) := by decide +kernel
theorem dX7_firstToLift_29 : decode cX7_firstToLift 29 = .ok (.iload_n 2, 1) := by decide +kernel
theorem dX7_firstToLift_30 : decode cX7_firstToLift 30 = .ok (.imul, 1) := by decide +kernel
theorem dX7_firstToLift_31 : decode cX7_firstToLift 31 = .ok (.iconst 1, 1) := by decide +kernel
theorem dX7_firstToLift_32 : decode cX7_firstToLift 32 = .ok (.iadd, 1) := by decide +kernel
theorem dX7_firstToLift_33 : decode cX7_firstToLift 33 = .ok (.istore_n 3, 1) := by decide +kernel
theorem dX7_firstToLift_34 : decode cX7_firstToLift 34 = .ok (.aload_n 0, 1) := by decide +kernel
theorem dX7_firstToLift_35 : decode cX7_firstToLift 35 = .ok (.iload_n 2, 1) := by decide +kernel
theorem dX7_firstToLift_36 : decode cX7_firstToLift 36 = .ok (.iload_n 1, 1) := by decide +kernel
theorem dX7_firstToLift_37 : decode cX7_firstToLift 37 = .ok (.invokevirtual 91, 3) := by decide +kernel
theorem dX7_firstToLift_40 : decode cX7_firstToLift 40 = .ok (.ifCond .eq 13, 3) := by decide +kernel
theorem dX7_firstToLift_43 : decode cX7_firstToLift 43 = .ok (.aload_n 0, 1) := by decide +kernel
theorem dX7_firstToLift_44 : decode cX7_firstToLift 44 = .ok (.iload_n 3, 1) := by decide +kernel
theorem dX7_firstToLift_45 : decode cX7_firstToLift 45 = .ok (.invokevirtual 114, 3) := by decide +kernel
theorem dX7_firstToLift_48 : decode cX7_firstToLift 48 = .ok (.ifCond .eq 5, 3) := by decide +kernel
theorem dX7_firstToLift_51 : decode cX7_firstToLift 51 = .ok (.iload_n 2, 1) := by decide +kernel
theorem dX7_firstToLift_52 : decode cX7_firstToLift 52 = .ok (.ireturn, 1) := by decide +kernel
theorem dX7_firstToLift_53 : decode cX7_firstToLift 53 = .ok (.iinc 2 1, 3) := by decide +kernel
theorem dX7_firstToLift_56 : decode cX7_firstToLift 56 = .ok (.goto (-54), 3) := by decide +kernel
theorem dX7_firstToLift_59 : decode cX7_firstToLift 59 = .ok (.iconst (-1), 1) := by decide +kernel
theorem dX7_firstToLift_60 : decode cX7_firstToLift 60 = .ok (.ireturn, 1) := by decide +kernel
def mX7_firstToLift (n : Nat) (b1 : Nat) (b2 : Int) (μ : Mem) : Option (Int × Mem) :=
  lp (fun nx2 (v2 : Int) (μ2 : Mem) =>
  (gI μ2 2 b1 1).bind fun x4 =>
  if lt32 v2 x4 then
    (gA μ2 2 b1 15).bind fun x11 =>
    (ldI μ2 0 x11 (2 * v2)).bind fun x17 =>
    jn (fun (v33 : Int) (μ33 : Mem) =>
    (inv μ33 2 b1 (mX1_hangsOpen n b1 v2 b2 μ33)).bind fun p37 =>
    if eq32 p37.1 0 then
      nx2 (v2 + 1) p37.2
    else
    (inv p37.2 2 b1 (mX1_depthOf n b1 v33 p37.2)).bind fun p45 =>
    if eq32 p45.1 0 then
      nx2 (v2 + 1) p45.2
    else
    some (v2, p45.2)) (fun j33 =>
    if eq32 x17 b2 then
      j33 (2 * v2) μ2
    else
    j33 ((2 * v2) + 1) μ2)
  else
  some ((-1), μ2)) n 0 μ
set_option maxRecDepth 100000 in
set_option maxHeartbeats 4000000 in
theorem cX7_firstToLift_ok (n : Nat) (b1 : Nat) (b2 : Int) (μ : Mem) : Mc yX7_firstToLift cX7_firstToLift 4 (some .int) 3 65 eI [aA b1, aI b2] μ (mX7_firstToLift n b1 b2 μ) := by
  refine mc_of (L0 := [some (aA b1), some (aI b2), none, none]) (k := 2) (by decide) rfl rfl (fun X Γ => ?_)
  unfold mX7_firstToLift
  refine sn_iconst dX7_firstToLift_0 ?_
  refine sn_istore_n (L' := [some (aA b1), some (aI b2), some (aI 0), none]) dX7_firstToLift_1 (by decide) rfl ?_
  refine sn_lp (La := fun v2 : Int => [some (aA b1), some (aI b2), some (aI v2), none]) ?_ n 0 μ
  intro nx2 hnx2 v2 μ2
  refine sn_iload_n dX7_firstToLift_2 rfl ?_
  refine sn_aload_n dX7_firstToLift_3 rfl ?_
  refine sn_getI (ci := 1) (j := 1) dX7_firstToLift_4 fl_X7_108 rfl (fun x4 => ?_)
  refine sn_icmp_ge (tgt := 59) dX7_firstToLift_7 (by decide) ?_ ?_
  · refine sn_iconst dX7_firstToLift_59 ?_
    exact sn_iret dX7_firstToLift_60
  · refine sn_aload_n dX7_firstToLift_10 rfl ?_
    refine sn_getA (ci := 1) (j := 15) dX7_firstToLift_11 fl_X7_111 (by decide) (fun x11 => ?_)
    refine sn_iconst dX7_firstToLift_14 ?_
    refine sn_iload_n dX7_firstToLift_15 rfl ?_
    refine sn_imul dX7_firstToLift_16 ?_
    refine sn_iald dX7_firstToLift_17 (fun x17 => ?_)
    refine sn_iload_n dX7_firstToLift_18 rfl ?_
    refine sn_jn (pcj := 33) (La := fun v33 : Int => [some (aA b1), some (aI b2), some (aI v2), none]) (Sa := fun v33 : Int => [aI v33]) ?_ ?_
    · intro v33 μ33
      refine sn_istore_n (L' := [some (aA b1), some (aI b2), some (aI v2), some (aI v33)]) dX7_firstToLift_33 (by decide) rfl ?_
      refine sn_aload_n dX7_firstToLift_34 rfl ?_
      refine sn_iload_n dX7_firstToLift_35 rfl ?_
      refine sn_iload_n dX7_firstToLift_36 rfl ?_
      refine sn_callVI (vs := [aI v2, aI b2]) (ci := 1) (cX1_hangsOpen_ok n b1 v2 b2 μ33) dX7_firstToLift_37 cw_X7_91 rfl rfl rfl (by decide) (by decide) (Nat.le_of_ble_eq_true rfl) (fun p37 => ?_)
      refine sn_if_eq (tgt := 53) dX7_firstToLift_40 (by decide) ?_ ?_
      · refine sn_iinc (L' := [some (aA b1), some (aI b2), some (aI (v2 + 1)), some (aI v33)]) dX7_firstToLift_53 rfl (by decide) rfl ?_
        refine sn_goto (tgt := 2) dX7_firstToLift_56 (by decide) ?_
        exact sn_mask (L' := [some (aA b1), some (aI b2), some (aI (v2 + 1)), none]) [true, true, true, false] rfl (hnx2 (v2 + 1) p37.2)
      · refine sn_aload_n dX7_firstToLift_43 rfl ?_
        refine sn_iload_n dX7_firstToLift_44 rfl ?_
        refine sn_callVI (vs := [aI v33]) (ci := 1) (cX1_depthOf_ok n b1 v33 p37.2) dX7_firstToLift_45 cw_X7_114 rfl rfl rfl (by decide) (by decide) (Nat.le_of_ble_eq_true rfl) (fun p45 => ?_)
        refine sn_if_eq (tgt := 53) dX7_firstToLift_48 (by decide) ?_ ?_
        · refine sn_iinc (L' := [some (aA b1), some (aI b2), some (aI (v2 + 1)), some (aI v33)]) dX7_firstToLift_53 rfl (by decide) rfl ?_
          refine sn_goto (tgt := 2) dX7_firstToLift_56 (by decide) ?_
          exact sn_mask (L' := [some (aA b1), some (aI b2), some (aI (v2 + 1)), none]) [true, true, true, false] rfl (hnx2 (v2 + 1) p45.2)
        · refine sn_iload_n dX7_firstToLift_51 rfl ?_
          exact sn_iret dX7_firstToLift_52
    intro j33 hj33
    refine sn_icmp_ne (tgt := 28) dX7_firstToLift_19 (by decide) ?_ ?_
    · refine sn_iconst dX7_firstToLift_28 ?_
      refine sn_iload_n dX7_firstToLift_29 rfl ?_
      refine sn_imul dX7_firstToLift_30 ?_
      refine sn_iconst dX7_firstToLift_31 ?_
      refine sn_iadd dX7_firstToLift_32 ?_
      exact hj33 ((2 * v2) + 1) μ2
    · refine sn_iconst dX7_firstToLift_22 ?_
      refine sn_iload_n dX7_firstToLift_23 rfl ?_
      refine sn_imul dX7_firstToLift_24 ?_
      refine sn_goto (tgt := 33) dX7_firstToLift_25 (by decide) ?_
      exact hj33 (2 * v2) μ2
theorem dX7_countBoth_0 : decode cX7_countBoth 0 = .ok (.iconst 0, 1) := by decide +kernel
theorem dX7_countBoth_1 : decode cX7_countBoth 1 = .ok (.istore_n 2, 1) := by decide +kernel
theorem dX7_countBoth_2 : decode cX7_countBoth 2 = .ok (.iload_n 2, 1) := by decide +kernel
theorem dX7_countBoth_3 : decode cX7_countBoth 3 = .ok (.aload_n 1, 1) := by decide +kernel
theorem dX7_countBoth_4 : decode cX7_countBoth 4 = .ok (.getfield 108, 3) := by decide +kernel
theorem dX7_countBoth_7 : decode cX7_countBoth 7 = .ok (.if_icmp .ge 55, 3) := by decide +kernel
theorem dX7_countBoth_10 : decode cX7_countBoth 10 = .ok (.aload_n 0, 1) := by decide +kernel
theorem dX7_countBoth_11 : decode cX7_countBoth 11 = .ok (.getfield 9, 3) := by decide +kernel
theorem dX7_countBoth_14 : decode cX7_countBoth 14 = .ok (.aload_n 1, 1) := by decide +kernel
theorem dX7_countBoth_15 : decode cX7_countBoth 15 = .ok (.getfield 111, 3) := by decide +kernel
theorem dX7_countBoth_18 : decode cX7_countBoth 18 = .ok (.iconst 2, 1) := by decide +kernel
theorem dX7_countBoth_19 : decode cX7_countBoth 19 = .ok (.iload_n 2, 1) := by decide +kernel
theorem dX7_countBoth_20 : decode cX7_countBoth 20 = .ok (.imul, 1) := by decide +kernel
theorem dX7_countBoth_21 : decode cX7_countBoth 21 = .ok (.iaload, 1) := by decide +kernel
theorem dX7_countBoth_22 : decode cX7_countBoth 22 = .ok (.iaload, 1) := by decide +kernel
theorem dX7_countBoth_23 : decode cX7_countBoth 23 = .ok (.iload_n 2, 1) := by decide +kernel
theorem dX7_countBoth_24 : decode cX7_countBoth 24 = .ok (.if_icmp .ne 32, 3) := by decide +kernel
theorem dX7_countBoth_27 : decode cX7_countBoth 27 = .ok (.aload_n 0, 1) := by decide +kernel
theorem dX7_countBoth_28 : decode cX7_countBoth 28 = .ok (.getfield 9, 3) := by decide +kernel
theorem dX7_countBoth_31 : decode cX7_countBoth 31 = .ok (.aload_n 1, 1) := by decide +kernel
theorem dX7_countBoth_32 : decode cX7_countBoth 32 = .ok (.getfield 111, 3) := by decide +kernel
theorem dX7_countBoth_35 : decode cX7_countBoth 35 = .ok (.iconst 2, 1) := by decide +kernel
theorem dX7_countBoth_36 : decode cX7_countBoth 36 = .ok (.iload_n 2, 1) := by decide +kernel
theorem dX7_countBoth_37 : decode cX7_countBoth 37 = .ok (.imul, 1) := by decide +kernel
theorem dX7_countBoth_38 : decode cX7_countBoth 38 = .ok (.iconst 1, 1) := by decide +kernel
theorem dX7_countBoth_39 : decode cX7_countBoth 39 = .ok (.iadd, 1) := by decide +kernel
theorem dX7_countBoth_40 : decode cX7_countBoth 40 = .ok (.iaload, 1) := by decide +kernel
theorem dX7_countBoth_41 : decode cX7_countBoth 41 = .ok (.iaload, 1) := by decide +kernel
theorem dX7_countBoth_42 : decode cX7_countBoth 42 = .ok (.iload_n 2, 1) := by decide +kernel
theorem dX7_countBoth_43 : decode cX7_countBoth 43 = .ok (.if_icmp .ne 13, 3) := by decide +kernel
theorem dX7_countBoth_46 : decode cX7_countBoth 46 = .ok (.aload_n 0, 1) := by decide +kernel
theorem dX7_countBoth_47 : decode cX7_countBoth 47 = .ok (.dup, 1) := by decide +kernel
theorem dX7_countBoth_48 : decode cX7_countBoth 48 = .ok (.getfield 31, 3) := by decide +kernel
theorem dX7_countBoth_51 : decode cX7_countBoth 51 = .ok (.iconst 1, 1) := by decide +kernel
theorem dX7_countBoth_52 : decode cX7_countBoth 52 = .ok (.iadd, 1) := by decide +kernel
theorem dX7_countBoth_53 : decode cX7_countBoth 53 = .ok (.putfield 31, 3) := by decide +kernel
theorem dX7_countBoth_56 : decode cX7_countBoth 56 = .ok (.iinc 2 1, 3) := by decide +kernel
theorem dX7_countBoth_59 : decode cX7_countBoth 59 = .ok (.goto (-57), 3) := by decide +kernel
theorem dX7_countBoth_62 : decode cX7_countBoth 62 = .ok (.return_, 1) := by decide +kernel
def mX7_countBoth (n : Nat) (a : Nat) (b1 : Nat) (μ : Mem) : Option (Unit × Mem) :=
  lp (fun nx2 (v2 : Int) (μ2 : Mem) =>
  (gI μ2 2 b1 1).bind fun x4 =>
  if lt32 v2 x4 then
    (gA μ2 8 a 6).bind fun x11 =>
    (gA μ2 2 b1 15).bind fun x15 =>
    (ldI μ2 0 x15 (2 * v2)).bind fun x21 =>
    (ldI μ2 0 x11 x21).bind fun x22 =>
    if eq32 x22 v2 then
      (gA μ2 8 a 6).bind fun x28 =>
      (gA μ2 2 b1 15).bind fun x32 =>
      (ldI μ2 0 x32 ((2 * v2) + 1)).bind fun x40 =>
      (ldI μ2 0 x28 x40).bind fun x41 =>
      if eq32 x41 v2 then
        (gI μ2 8 a 5).bind fun x48 =>
        (pI μ2 8 a 5 (x48 + 1)).bind fun μ53 =>
        nx2 (v2 + 1) μ53
      else
      nx2 (v2 + 1) μ2
    else
    nx2 (v2 + 1) μ2
  else
  some ((), μ2)) n 0 μ
set_option maxRecDepth 100000 in
set_option maxHeartbeats 4000000 in
theorem cX7_countBoth_ok (n : Nat) (a : Nat) (b1 : Nat) (μ : Mem) : Mc yX7_countBoth cX7_countBoth 3 none 0 0 eV [aA a, aA b1] μ (mX7_countBoth n a b1 μ) := by
  refine mc_of (L0 := [some (aA a), some (aA b1), none]) (k := 1) (by decide) rfl rfl (fun X Γ => ?_)
  unfold mX7_countBoth
  refine sn_iconst dX7_countBoth_0 ?_
  refine sn_istore_n (L' := [some (aA a), some (aA b1), some (aI 0)]) dX7_countBoth_1 (by decide) rfl ?_
  refine sn_lp (La := fun v2 : Int => [some (aA a), some (aA b1), some (aI v2)]) ?_ n 0 μ
  intro nx2 hnx2 v2 μ2
  refine sn_iload_n dX7_countBoth_2 rfl ?_
  refine sn_aload_n dX7_countBoth_3 rfl ?_
  refine sn_getI (ci := 1) (j := 1) dX7_countBoth_4 fl_X7_108 rfl (fun x4 => ?_)
  refine sn_icmp_ge (tgt := 62) dX7_countBoth_7 (by decide) ?_ ?_
  · exact sn_vret dX7_countBoth_62
  · refine sn_aload_n dX7_countBoth_10 rfl ?_
    refine sn_getA (ci := 7) (j := 6) dX7_countBoth_11 fl_X7_9 (by decide) (fun x11 => ?_)
    refine sn_aload_n dX7_countBoth_14 rfl ?_
    refine sn_getA (ci := 1) (j := 15) dX7_countBoth_15 fl_X7_111 (by decide) (fun x15 => ?_)
    refine sn_iconst dX7_countBoth_18 ?_
    refine sn_iload_n dX7_countBoth_19 rfl ?_
    refine sn_imul dX7_countBoth_20 ?_
    refine sn_iald dX7_countBoth_21 (fun x21 => ?_)
    refine sn_iald dX7_countBoth_22 (fun x22 => ?_)
    refine sn_iload_n dX7_countBoth_23 rfl ?_
    refine sn_icmp_ne (tgt := 56) dX7_countBoth_24 (by decide) ?_ ?_
    · refine sn_iinc (L' := [some (aA a), some (aA b1), some (aI (v2 + 1))]) dX7_countBoth_56 rfl (by decide) rfl ?_
      refine sn_goto (tgt := 2) dX7_countBoth_59 (by decide) ?_
      exact hnx2 (v2 + 1) μ2
    · refine sn_aload_n dX7_countBoth_27 rfl ?_
      refine sn_getA (ci := 7) (j := 6) dX7_countBoth_28 fl_X7_9 (by decide) (fun x28 => ?_)
      refine sn_aload_n dX7_countBoth_31 rfl ?_
      refine sn_getA (ci := 1) (j := 15) dX7_countBoth_32 fl_X7_111 (by decide) (fun x32 => ?_)
      refine sn_iconst dX7_countBoth_35 ?_
      refine sn_iload_n dX7_countBoth_36 rfl ?_
      refine sn_imul dX7_countBoth_37 ?_
      refine sn_iconst dX7_countBoth_38 ?_
      refine sn_iadd dX7_countBoth_39 ?_
      refine sn_iald dX7_countBoth_40 (fun x40 => ?_)
      refine sn_iald dX7_countBoth_41 (fun x41 => ?_)
      refine sn_iload_n dX7_countBoth_42 rfl ?_
      refine sn_icmp_ne (tgt := 56) dX7_countBoth_43 (by decide) ?_ ?_
      · refine sn_iinc (L' := [some (aA a), some (aA b1), some (aI (v2 + 1))]) dX7_countBoth_56 rfl (by decide) rfl ?_
        refine sn_goto (tgt := 2) dX7_countBoth_59 (by decide) ?_
        exact hnx2 (v2 + 1) μ2
      · refine sn_aload_n dX7_countBoth_46 rfl ?_
        refine sn_dup dX7_countBoth_47 rfl ?_
        refine sn_getI (ci := 7) (j := 5) dX7_countBoth_48 fl_X7_31 rfl (fun x48 => ?_)
        refine sn_iconst dX7_countBoth_51 ?_
        refine sn_iadd dX7_countBoth_52 ?_
        refine sn_putI (ci := 7) (j := 5) dX7_countBoth_53 fl_X7_31 rfl (fun q h => by cases h; rfl) (fun μ53 => ?_)
        refine sn_iinc (L' := [some (aA a), some (aA b1), some (aI (v2 + 1))]) dX7_countBoth_56 rfl (by decide) rfl ?_
        refine sn_goto (tgt := 2) dX7_countBoth_59 (by decide) ?_
        exact hnx2 (v2 + 1) μ53
theorem dX7_doCustom_0 : decode cX7_doCustom 0 = .ok (.aload_n 0, 1) := by decide +kernel
theorem dX7_doCustom_1 : decode cX7_doCustom 1 = .ok (.invokevirtual 46, 3) := by decide +kernel
theorem dX7_doCustom_4 : decode cX7_doCustom 4 = .ok (.iconst 0, 1) := by decide +kernel
theorem dX7_doCustom_5 : decode cX7_doCustom 5 = .ok (.istore_n 3, 1) := by decide +kernel
theorem dX7_doCustom_6 : decode cX7_doCustom 6 = .ok (.iload_n 3, 1) := by decide +kernel
theorem dX7_doCustom_7 : decode cX7_doCustom 7 = .ok (.iload_n 2, 1) := by decide +kernel
theorem dX7_doCustom_8 : decode cX7_doCustom 8 = .ok (.if_icmp .ge 72, 3) := by decide +kernel
theorem dX7_doCustom_11 : decode cX7_doCustom 11 = .ok (.iconst 0, 1) := by decide +kernel
theorem dX7_doCustom_12 : decode cX7_doCustom 12 = .ok (.istore 4, 2) := by decide +kernel
theorem dX7_doCustom_14 : decode cX7_doCustom 14 = .ok (.iload 4, 2) := by decide +kernel
theorem dX7_doCustom_16 : decode cX7_doCustom 16 = .ok (.aload_n 1, 1) := by decide +kernel
theorem dX7_doCustom_17 : decode cX7_doCustom 17 = .ok (.getfield 95, 3) := by decide +kernel
theorem dX7_doCustom_20 : decode cX7_doCustom 20 = .ok (.if_icmp .ge 44, 3) := by decide +kernel
theorem dX7_doCustom_23 : decode cX7_doCustom 23 = .ok (.aload_n 1, 1) := by decide +kernel
theorem dX7_doCustom_24 : decode cX7_doCustom 24 = .ok (.iload 4, 2) := by decide +kernel
theorem dX7_doCustom_26 : decode cX7_doCustom 26 = .ok (.invokevirtual 98, 3) := by decide +kernel
theorem dX7_doCustom_29 : decode cX7_doCustom 29 = .ok (.ifCond .eq 12, 3) := by decide +kernel
theorem dX7_doCustom_32 : decode cX7_doCustom 32 = .ok (.aload_n 1, 1) := by decide +kernel
theorem dX7_doCustom_33 : decode cX7_doCustom 33 = .ok (.iload 4, 2) := by decide +kernel
theorem dX7_doCustom_35 : decode cX7_doCustom 35 = .ok (.invokestatic 101, 3) := by decide +kernel
theorem dX7_doCustom_38 : decode cX7_doCustom 38 = .ok (.goto 4, 3) := by decide +kernel
theorem dX7_doCustom_41 : decode cX7_doCustom 41 = .ok (.iconst (-1), 1) := by decide +kernel
theorem dX7_doCustom_42 : decode cX7_doCustom 42 = .ok (.istore 5, 2) := by decide +kernel
theorem dX7_doCustom_44 : decode cX7_doCustom 44 = .ok (.iload 5, 2) := by decide +kernel
theorem dX7_doCustom_46 : decode cX7_doCustom 46 = .ok (.iconst (-1), 1) := by decide +kernel
theorem dX7_doCustom_47 : decode cX7_doCustom 47 = .ok (.if_icmp .eq 11, 3) := by decide +kernel
theorem dX7_doCustom_50 : decode cX7_doCustom 50 = .ok (.aload_n 0, 1) := by decide +kernel
theorem dX7_doCustom_51 : decode cX7_doCustom 51 = .ok (.iload 4, 2) := by decide +kernel
theorem dX7_doCustom_53 : decode cX7_doCustom 53 = .ok (.iload 5, 2) := by decide +kernel
theorem dX7_doCustom_55 : decode cX7_doCustom 55 = .ok (.invokevirtual 55, 3) := by decide +kernel
theorem dX7_doCustom_58 : decode cX7_doCustom 58 = .ok (.iinc 4 1, 3) := by decide +kernel
theorem dX7_doCustom_61 : decode cX7_doCustom 61 = .ok (.goto (-47), 3) := by decide +kernel
theorem dX7_doCustom_64 : decode cX7_doCustom 64 = .ok (.aload_n 0, 1) := by decide +kernel
theorem dX7_doCustom_65 : decode cX7_doCustom 65 = .ok (.aload_n 1, 1) := by decide +kernel
theorem dX7_doCustom_66 : decode cX7_doCustom 66 = .ok (.invokevirtual 105, 3) := by decide +kernel
theorem dX7_doCustom_69 : decode cX7_doCustom 69 = .ok (.aload_n 0, 1) := by decide +kernel
theorem dX7_doCustom_70 : decode cX7_doCustom 70 = .ok (.aload_n 1, 1) := by decide +kernel
theorem dX7_doCustom_71 : decode cX7_doCustom 71 = .ok (.invokevirtual 59, 3) := by decide +kernel
theorem dX7_doCustom_74 : decode cX7_doCustom 74 = .ok (.iinc 3 1, 3) := by decide +kernel
theorem dX7_doCustom_77 : decode cX7_doCustom 77 = .ok (.goto (-71), 3) := by decide +kernel
theorem dX7_doCustom_80 : decode cX7_doCustom 80 = .ok (.return_, 1) := by decide +kernel
def mX7_doCustom (n : Nat) (a : Nat) (b1 : Nat) (b2 : Int) (μ : Mem) : Option (Unit × Mem) :=
  (inv μ 8 a (mX7_begin n a μ)).bind fun p1 =>
  lp (fun nx6 (v6 : Int) (μ6 : Mem) =>
  if lt32 v6 b2 then
    lp (fun nx14 (v14 : Int) (μ14 : Mem) =>
    (gI μ14 2 b1 0).bind fun x17 =>
    if lt32 v14 x17 then
      (inv μ14 2 b1 (mX1_thirstsNow n b1 v14 μ14)).bind fun p26 =>
      jn (fun (v42 : Int) (μ42 : Mem) =>
      if eq32 v42 (-1) then
        nx14 (v14 + 1) μ42
      else
      (inv μ42 8 a (mX7_addPull n a v14 v42 μ42)).bind fun p55 =>
      nx14 (v14 + 1) p55.2) (fun j42 =>
      if eq32 p26.1 0 then
        j42 (-1) p26.2
      else
      (mX7_firstToLift n b1 v14 p26.2).bind fun p35 =>
      j42 p35.1 p35.2)
    else
    (inv μ14 8 a (mX7_countBoth n a b1 μ14)).bind fun p66 =>
    (inv p66.2 8 a (mX7_endHour n a b1 p66.2)).bind fun p71 =>
    nx6 (v6 + 1) p71.2) n 0 μ6
  else
  some ((), μ6)) n 0 p1.2
set_option maxRecDepth 100000 in
set_option maxHeartbeats 4000000 in
theorem cX7_doCustom_ok (n : Nat) (a : Nat) (b1 : Nat) (b2 : Int) (μ : Mem) : Mc yX7_doCustom cX7_doCustom 6 none 5 131 eV [aA a, aA b1, aI b2] μ (mX7_doCustom n a b1 b2 μ) := by
  refine mc_of (L0 := [some (aA a), some (aA b1), some (aI b2), none, none, none]) (k := 3) (by decide) rfl rfl (fun X Γ => ?_)
  unfold mX7_doCustom
  refine sn_aload_n dX7_doCustom_0 rfl ?_
  refine sn_callVV (vs := []) (ci := 7) (cX7_begin_ok n a μ) dX7_doCustom_1 cw_X7_46 rfl rfl rfl (by decide) (by decide) (Nat.le_of_ble_eq_true rfl) (fun p1 => ?_)
  refine sn_iconst dX7_doCustom_4 ?_
  refine sn_istore_n (L' := [some (aA a), some (aA b1), some (aI b2), some (aI 0), none, none]) dX7_doCustom_5 (by decide) rfl ?_
  refine sn_lp (La := fun v6 : Int => [some (aA a), some (aA b1), some (aI b2), some (aI v6), none, none]) ?_ n 0 p1.2
  intro nx6 hnx6 v6 μ6
  refine sn_iload_n dX7_doCustom_6 rfl ?_
  refine sn_iload_n dX7_doCustom_7 rfl ?_
  refine sn_icmp_ge (tgt := 80) dX7_doCustom_8 (by decide) ?_ ?_
  · exact sn_vret dX7_doCustom_80
  · refine sn_iconst dX7_doCustom_11 ?_
    refine sn_istore (L' := [some (aA a), some (aA b1), some (aI b2), some (aI v6), some (aI 0), none]) dX7_doCustom_12 (by decide) rfl ?_
    refine sn_lp (La := fun v14 : Int => [some (aA a), some (aA b1), some (aI b2), some (aI v6), some (aI v14), none]) ?_ n 0 μ6
    intro nx14 hnx14 v14 μ14
    refine sn_iload dX7_doCustom_14 rfl ?_
    refine sn_aload_n dX7_doCustom_16 rfl ?_
    refine sn_getI (ci := 1) (j := 0) dX7_doCustom_17 fl_X7_95 rfl (fun x17 => ?_)
    refine sn_icmp_ge (tgt := 64) dX7_doCustom_20 (by decide) ?_ ?_
    · refine sn_aload_n dX7_doCustom_64 rfl ?_
      refine sn_aload_n dX7_doCustom_65 rfl ?_
      refine sn_callVV (vs := [aA b1]) (ci := 7) (cX7_countBoth_ok n a b1 μ14) dX7_doCustom_66 cw_X7_105 rfl rfl rfl (by decide) (by decide) (Nat.le_of_ble_eq_true rfl) (fun p66 => ?_)
      refine sn_aload_n dX7_doCustom_69 rfl ?_
      refine sn_aload_n dX7_doCustom_70 rfl ?_
      refine sn_callVV (vs := [aA b1]) (ci := 7) (cX7_endHour_ok n a b1 p66.2) dX7_doCustom_71 cw_X7_59 rfl rfl rfl (by decide) (by decide) (Nat.le_of_ble_eq_true rfl) (fun p71 => ?_)
      refine sn_iinc (L' := [some (aA a), some (aA b1), some (aI b2), some (aI (v6 + 1)), some (aI v14), none]) dX7_doCustom_74 rfl (by decide) rfl ?_
      refine sn_goto (tgt := 6) dX7_doCustom_77 (by decide) ?_
      exact sn_mask (L' := [some (aA a), some (aA b1), some (aI b2), some (aI (v6 + 1)), none, none]) [true, true, true, true, false, false] rfl (hnx6 (v6 + 1) p71.2)
    · refine sn_aload_n dX7_doCustom_23 rfl ?_
      refine sn_iload dX7_doCustom_24 rfl ?_
      refine sn_callVI (vs := [aI v14]) (ci := 1) (cX1_thirstsNow_ok n b1 v14 μ14) dX7_doCustom_26 cw_X7_98 rfl rfl rfl (by decide) (by decide) (Nat.le_of_ble_eq_true rfl) (fun p26 => ?_)
      refine sn_jn (pcj := 42) (La := fun v42 : Int => [some (aA a), some (aA b1), some (aI b2), some (aI v6), some (aI v14), none]) (Sa := fun v42 : Int => [aI v42]) ?_ ?_
      · intro v42 μ42
        refine sn_istore (L' := [some (aA a), some (aA b1), some (aI b2), some (aI v6), some (aI v14), some (aI v42)]) dX7_doCustom_42 (by decide) rfl ?_
        refine sn_iload dX7_doCustom_44 rfl ?_
        refine sn_iconst dX7_doCustom_46 ?_
        refine sn_icmp_eq (tgt := 58) dX7_doCustom_47 (by decide) ?_ ?_
        · refine sn_iinc (L' := [some (aA a), some (aA b1), some (aI b2), some (aI v6), some (aI (v14 + 1)), some (aI v42)]) dX7_doCustom_58 rfl (by decide) rfl ?_
          refine sn_goto (tgt := 14) dX7_doCustom_61 (by decide) ?_
          exact sn_mask (L' := [some (aA a), some (aA b1), some (aI b2), some (aI v6), some (aI (v14 + 1)), none]) [true, true, true, true, true, false] rfl (hnx14 (v14 + 1) μ42)
        · refine sn_aload_n dX7_doCustom_50 rfl ?_
          refine sn_iload dX7_doCustom_51 rfl ?_
          refine sn_iload dX7_doCustom_53 rfl ?_
          refine sn_callVV (vs := [aI v14, aI v42]) (ci := 7) (cX7_addPull_ok n a v14 v42 μ42) dX7_doCustom_55 cw_X7_55 rfl rfl rfl (by decide) (by decide) (Nat.le_of_ble_eq_true rfl) (fun p55 => ?_)
          refine sn_iinc (L' := [some (aA a), some (aA b1), some (aI b2), some (aI v6), some (aI (v14 + 1)), some (aI v42)]) dX7_doCustom_58 rfl (by decide) rfl ?_
          refine sn_goto (tgt := 14) dX7_doCustom_61 (by decide) ?_
          exact sn_mask (L' := [some (aA a), some (aA b1), some (aI b2), some (aI v6), some (aI (v14 + 1)), none]) [true, true, true, true, true, false] rfl (hnx14 (v14 + 1) p55.2)
      intro j42 hj42
      refine sn_if_eq (tgt := 41) dX7_doCustom_29 (by decide) ?_ ?_
      · refine sn_iconst dX7_doCustom_41 ?_
        exact hj42 (-1) p26.2
      · refine sn_aload_n dX7_doCustom_32 rfl ?_
        refine sn_iload dX7_doCustom_33 rfl ?_
        refine sn_callSI (vs := [aA b1, aI v14]) (cX7_firstToLift_ok n b1 v14 p26.2) dX7_doCustom_35 cw_X7_101 rfl (by decide) (by decide) (Nat.le_of_ble_eq_true rfl) (fun p35 => ?_)
        refine sn_goto (tgt := 42) dX7_doCustom_38 (by decide) ?_
        exact hj42 p35.1 p35.2
theorem dX7_doDrawn_0 : decode cX7_doDrawn 0 = .ok (.aload_n 0, 1) := by decide +kernel
theorem dX7_doDrawn_1 : decode cX7_doDrawn 1 = .ok (.invokevirtual 46, 3) := by decide +kernel
theorem dX7_doDrawn_4 : decode cX7_doDrawn 4 = .ok (.iload_n 2, 1) := by decide +kernel
theorem dX7_doDrawn_5 : decode cX7_doDrawn 5 = .ok (.istore 4, 2) := by decide +kernel
theorem dX7_doDrawn_7 : decode cX7_doDrawn 7 = .ok (.iconst 0, 1) := by decide +kernel
theorem dX7_doDrawn_8 : decode cX7_doDrawn 8 = .ok (.istore 5, 2) := by decide +kernel
theorem dX7_doDrawn_10 : decode cX7_doDrawn 10 = .ok (.iload 5, 2) := by decide +kernel
theorem dX7_doDrawn_12 : decode cX7_doDrawn 12 = .ok (.iload_n 3, 1) := by decide +kernel
theorem dX7_doDrawn_13 : decode cX7_doDrawn 13 = .ok (.if_icmp .ge 78, 3) := by decide +kernel
theorem dX7_doDrawn_16 : decode cX7_doDrawn 16 = .ok (.iconst 0, 1) := by decide +kernel
theorem dX7_doDrawn_17 : decode cX7_doDrawn 17 = .ok (.istore 6, 2) := by decide +kernel
theorem dX7_doDrawn_19 : decode cX7_doDrawn 19 = .ok (.iload 6, 2) := by decide +kernel
theorem dX7_doDrawn_21 : decode cX7_doDrawn 21 = .ok (.aload_n 1, 1) := by decide +kernel
theorem dX7_doDrawn_22 : decode cX7_doDrawn 22 = .ok (.getfield 95, 3) := by decide +kernel
theorem dX7_doDrawn_25 : decode cX7_doDrawn 25 = .ok (.if_icmp .ge 55, 3) := by decide +kernel
theorem dX7_doDrawn_28 : decode cX7_doDrawn 28 = .ok (.ldc 118, 2) := by decide +kernel
theorem dX7_doDrawn_30 : decode cX7_doDrawn 30 = .ok (.iload 4, 2) := by decide +kernel
theorem dX7_doDrawn_32 : decode cX7_doDrawn 32 = .ok (.imul, 1) := by decide +kernel
theorem dX7_doDrawn_33 : decode cX7_doDrawn 33 = .ok (.sipush 12345, 3) := by decide +kernel
theorem dX7_doDrawn_36 : decode cX7_doDrawn 36 = .ok (.iadd, 1) := by decide +kernel
theorem dX7_doDrawn_37 : decode cX7_doDrawn 37 = .ok (.istore 4, 2) := by decide +kernel
theorem dX7_doDrawn_39 : decode cX7_doDrawn 39 = .ok (.iload 4, 2) := by decide +kernel
theorem dX7_doDrawn_41 : decode cX7_doDrawn 41 = .ok (.bipush 16, 2) := by decide +kernel
theorem dX7_doDrawn_43 : decode cX7_doDrawn 43 = .ok (.iushr, 1) := by decide +kernel
theorem dX7_doDrawn_44 : decode cX7_doDrawn 44 = .ok (.aload_n 1, 1) := by decide +kernel
theorem dX7_doDrawn_45 : decode cX7_doDrawn 45 = .ok (.iload 6, 2) := by decide +kernel
theorem dX7_doDrawn_47 : decode cX7_doDrawn 47 = .ok (.invokevirtual 119, 3) := by decide +kernel
theorem dX7_doDrawn_50 : decode cX7_doDrawn 50 = .ok (.iconst 1, 1) := by decide +kernel
theorem dX7_doDrawn_51 : decode cX7_doDrawn 51 = .ok (.iadd, 1) := by decide +kernel
theorem dX7_doDrawn_52 : decode cX7_doDrawn 52 = .ok (.irem, 1) := by decide +kernel
theorem dX7_doDrawn_53 : decode cX7_doDrawn 53 = .ok (.istore 7, 2) := by decide +kernel
theorem dX7_doDrawn_55 : decode cX7_doDrawn 55 = .ok (.iload 7, 2) := by decide +kernel
theorem dX7_doDrawn_57 : decode cX7_doDrawn 57 = .ok (.ifCond .le 17, 3) := by decide +kernel
theorem dX7_doDrawn_60 : decode cX7_doDrawn 60 = .ok (.aload_n 0, 1) := by decide +kernel
theorem dX7_doDrawn_61 : decode cX7_doDrawn 61 = .ok (.iload 6, 2) := by decide +kernel
theorem dX7_doDrawn_63 : decode cX7_doDrawn 63 = .ok (.aload_n 1, 1) := by decide +kernel
theorem dX7_doDrawn_64 : decode cX7_doDrawn 64 = .ok (.iload 6, 2) := by decide +kernel
theorem dX7_doDrawn_66 : decode cX7_doDrawn 66 = .ok (.iload 7, 2) := by decide +kernel
theorem dX7_doDrawn_68 : decode cX7_doDrawn 68 = .ok (.invokevirtual 122, 3) := by decide +kernel
theorem dX7_doDrawn_71 : decode cX7_doDrawn 71 = .ok (.invokevirtual 55, 3) := by decide +kernel
theorem dX7_doDrawn_74 : decode cX7_doDrawn 74 = .ok (.iinc 6 1, 3) := by decide +kernel
theorem dX7_doDrawn_77 : decode cX7_doDrawn 77 = .ok (.goto (-58), 3) := by decide +kernel
theorem dX7_doDrawn_80 : decode cX7_doDrawn 80 = .ok (.aload_n 0, 1) := by decide +kernel
theorem dX7_doDrawn_81 : decode cX7_doDrawn 81 = .ok (.aload_n 1, 1) := by decide +kernel
theorem dX7_doDrawn_82 : decode cX7_doDrawn 82 = .ok (.invokevirtual 59, 3) := by decide +kernel
theorem dX7_doDrawn_85 : decode cX7_doDrawn 85 = .ok (.iinc 5 1, 3) := by decide +kernel
theorem dX7_doDrawn_88 : decode cX7_doDrawn 88 = .ok (.goto (-78), 3) := by decide +kernel
theorem dX7_doDrawn_91 : decode cX7_doDrawn 91 = .ok (.return_, 1) := by decide +kernel
def mX7_doDrawn (n : Nat) (a : Nat) (b1 : Nat) (b2 : Int) (b3 : Int) (μ : Mem) : Option (Unit × Mem) :=
  (inv μ 8 a (mX7_begin n a μ)).bind fun p1 =>
  lp (fun nx10 (v10 : Int × Int) (μ10 : Mem) =>
  if lt32 v10.2 b3 then
    lp (fun nx19 (v19 : Int × Int) (μ19 : Mem) =>
    (gI μ19 2 b1 0).bind fun x22 =>
    if lt32 v19.2 x22 then
      (inv μ19 2 b1 (mX1_openCount n b1 v19.2 μ19)).bind fun p47 =>
      if Int32.ofInt (p47.1 + 1) = 0 then none else
      if lt32 0 (oRem (oUshr ((1103515245 * v19.1) + 12345) 16) (p47.1 + 1)) then
        (inv p47.2 2 b1 (mX1_openRope n b1 v19.2 (oRem (oUshr ((1103515245 * v19.1) + 12345) 16) (p47.1 + 1)) p47.2)).bind fun p68 =>
        (inv p68.2 8 a (mX7_addPull n a v19.2 p68.1 p68.2)).bind fun p71 =>
        nx19 (((1103515245 * v19.1) + 12345), (v19.2 + 1)) p71.2
      else
      nx19 (((1103515245 * v19.1) + 12345), (v19.2 + 1)) p47.2
    else
    (inv μ19 8 a (mX7_endHour n a b1 μ19)).bind fun p82 =>
    nx10 (v19.1, (v10.2 + 1)) p82.2) n (v10.1, 0) μ10
  else
  some ((), μ10)) n (b2, 0) p1.2
set_option maxRecDepth 100000 in
set_option maxHeartbeats 4000000 in
theorem cX7_doDrawn_ok (n : Nat) (a : Nat) (b1 : Nat) (b2 : Int) (b3 : Int) (μ : Mem) : Mc yX7_doDrawn cX7_doDrawn 8 none 5 131 eV [aA a, aA b1, aI b2, aI b3] μ (mX7_doDrawn n a b1 b2 b3 μ) := by
  refine mc_of (L0 := [some (aA a), some (aA b1), some (aI b2), some (aI b3), none, none, none, none]) (k := 4) (by decide) rfl rfl (fun X Γ => ?_)
  unfold mX7_doDrawn
  refine sn_aload_n dX7_doDrawn_0 rfl ?_
  refine sn_callVV (vs := []) (ci := 7) (cX7_begin_ok n a μ) dX7_doDrawn_1 cw_X7_46 rfl rfl rfl (by decide) (by decide) (Nat.le_of_ble_eq_true rfl) (fun p1 => ?_)
  refine sn_iload_n dX7_doDrawn_4 rfl ?_
  refine sn_istore (L' := [some (aA a), some (aA b1), some (aI b2), some (aI b3), some (aI b2), none, none, none]) dX7_doDrawn_5 (by decide) rfl ?_
  refine sn_iconst dX7_doDrawn_7 ?_
  refine sn_istore (L' := [some (aA a), some (aA b1), some (aI b2), some (aI b3), some (aI b2), some (aI 0), none, none]) dX7_doDrawn_8 (by decide) rfl ?_
  refine sn_mask (L' := [some (aA a), some (aA b1), none, some (aI b3), some (aI b2), some (aI 0), none, none]) [true, true, false, true, true, true, false, false] rfl ?_
  refine sn_lp (La := fun v10 : Int × Int => [some (aA a), some (aA b1), none, some (aI b3), some (aI v10.1), some (aI v10.2), none, none]) ?_ n (b2, 0) p1.2
  intro nx10 hnx10 v10 μ10
  refine sn_iload dX7_doDrawn_10 rfl ?_
  refine sn_iload_n dX7_doDrawn_12 rfl ?_
  refine sn_icmp_ge (tgt := 91) dX7_doDrawn_13 (by decide) ?_ ?_
  · exact sn_vret dX7_doDrawn_91
  · refine sn_iconst dX7_doDrawn_16 ?_
    refine sn_istore (L' := [some (aA a), some (aA b1), none, some (aI b3), some (aI v10.1), some (aI v10.2), some (aI 0), none]) dX7_doDrawn_17 (by decide) rfl ?_
    refine sn_lp (La := fun v19 : Int × Int => [some (aA a), some (aA b1), none, some (aI b3), some (aI v19.1), some (aI v10.2), some (aI v19.2), none]) ?_ n (v10.1, 0) μ10
    intro nx19 hnx19 v19 μ19
    refine sn_iload dX7_doDrawn_19 rfl ?_
    refine sn_aload_n dX7_doDrawn_21 rfl ?_
    refine sn_getI (ci := 1) (j := 0) dX7_doDrawn_22 fl_X7_95 rfl (fun x22 => ?_)
    refine sn_icmp_ge (tgt := 80) dX7_doDrawn_25 (by decide) ?_ ?_
    · refine sn_aload_n dX7_doDrawn_80 rfl ?_
      refine sn_aload_n dX7_doDrawn_81 rfl ?_
      refine sn_callVV (vs := [aA b1]) (ci := 7) (cX7_endHour_ok n a b1 μ19) dX7_doDrawn_82 cw_X7_59 rfl rfl rfl (by decide) (by decide) (Nat.le_of_ble_eq_true rfl) (fun p82 => ?_)
      refine sn_iinc (L' := [some (aA a), some (aA b1), none, some (aI b3), some (aI v19.1), some (aI (v10.2 + 1)), some (aI v19.2), none]) dX7_doDrawn_85 rfl (by decide) rfl ?_
      refine sn_goto (tgt := 10) dX7_doDrawn_88 (by decide) ?_
      exact sn_mask (L' := [some (aA a), some (aA b1), none, some (aI b3), some (aI v19.1), some (aI (v10.2 + 1)), none, none]) [true, true, false, true, true, true, false, false] rfl (hnx10 (v19.1, (v10.2 + 1)) p82.2)
    · refine sn_ldc (v := 1103515245) dX7_doDrawn_28 k_X7_118 (by decide) ?_
      refine sn_iload dX7_doDrawn_30 rfl ?_
      refine sn_imul dX7_doDrawn_32 ?_
      refine sn_sipush dX7_doDrawn_33 (by decide) ?_
      refine sn_iadd dX7_doDrawn_36 ?_
      refine sn_istore (L' := [some (aA a), some (aA b1), none, some (aI b3), some (aI ((1103515245 * v19.1) + 12345)), some (aI v10.2), some (aI v19.2), none]) dX7_doDrawn_37 (by decide) rfl ?_
      refine sn_iload dX7_doDrawn_39 rfl ?_
      refine sn_bipush dX7_doDrawn_41 (by decide) ?_
      refine sn_iushr dX7_doDrawn_43 ?_
      refine sn_aload_n dX7_doDrawn_44 rfl ?_
      refine sn_iload dX7_doDrawn_45 rfl ?_
      refine sn_callVI (vs := [aI v19.2]) (ci := 1) (cX1_openCount_ok n b1 v19.2 μ19) dX7_doDrawn_47 cw_X7_119 rfl rfl rfl (by decide) (by decide) (Nat.le_of_ble_eq_true rfl) (fun p47 => ?_)
      refine sn_iconst dX7_doDrawn_50 ?_
      refine sn_iadd dX7_doDrawn_51 ?_
      refine sn_irem dX7_doDrawn_52 ?_
      refine sn_istore (L' := [some (aA a), some (aA b1), none, some (aI b3), some (aI ((1103515245 * v19.1) + 12345)), some (aI v10.2), some (aI v19.2), some (aI (oRem (oUshr ((1103515245 * v19.1) + 12345) 16) (p47.1 + 1)))]) dX7_doDrawn_53 (by decide) rfl ?_
      refine sn_iload dX7_doDrawn_55 rfl ?_
      refine sn_if_le (tgt := 74) dX7_doDrawn_57 (by decide) ?_ ?_
      · refine sn_iinc (L' := [some (aA a), some (aA b1), none, some (aI b3), some (aI ((1103515245 * v19.1) + 12345)), some (aI v10.2), some (aI (v19.2 + 1)), some (aI (oRem (oUshr ((1103515245 * v19.1) + 12345) 16) (p47.1 + 1)))]) dX7_doDrawn_74 rfl (by decide) rfl ?_
        refine sn_goto (tgt := 19) dX7_doDrawn_77 (by decide) ?_
        exact sn_mask (L' := [some (aA a), some (aA b1), none, some (aI b3), some (aI ((1103515245 * v19.1) + 12345)), some (aI v10.2), some (aI (v19.2 + 1)), none]) [true, true, false, true, true, true, true, false] rfl (hnx19 (((1103515245 * v19.1) + 12345), (v19.2 + 1)) p47.2)
      · refine sn_aload_n dX7_doDrawn_60 rfl ?_
        refine sn_iload dX7_doDrawn_61 rfl ?_
        refine sn_aload_n dX7_doDrawn_63 rfl ?_
        refine sn_iload dX7_doDrawn_64 rfl ?_
        refine sn_iload dX7_doDrawn_66 rfl ?_
        refine sn_callVI (vs := [aI v19.2, aI (oRem (oUshr ((1103515245 * v19.1) + 12345) 16) (p47.1 + 1))]) (ci := 1) (cX1_openRope_ok n b1 v19.2 (oRem (oUshr ((1103515245 * v19.1) + 12345) 16) (p47.1 + 1)) p47.2) dX7_doDrawn_68 cw_X7_122 rfl rfl rfl (by decide) (by decide) (Nat.le_of_ble_eq_true rfl) (fun p68 => ?_)
        refine sn_callVV (vs := [aI v19.2, aI p68.1]) (ci := 7) (cX7_addPull_ok n a v19.2 p68.1 p68.2) dX7_doDrawn_71 cw_X7_55 rfl rfl rfl (by decide) (by decide) (Nat.le_of_ble_eq_true rfl) (fun p71 => ?_)
        refine sn_iinc (L' := [some (aA a), some (aA b1), none, some (aI b3), some (aI ((1103515245 * v19.1) + 12345)), some (aI v10.2), some (aI (v19.2 + 1)), some (aI (oRem (oUshr ((1103515245 * v19.1) + 12345) 16) (p47.1 + 1)))]) dX7_doDrawn_74 rfl (by decide) rfl ?_
        refine sn_goto (tgt := 19) dX7_doDrawn_77 (by decide) ?_
        exact sn_mask (L' := [some (aA a), some (aA b1), none, some (aI b3), some (aI ((1103515245 * v19.1) + 12345)), some (aI v10.2), some (aI (v19.2 + 1)), none]) [true, true, false, true, true, true, true, false] rfl (hnx19 (((1103515245 * v19.1) + 12345), (v19.2 + 1)) p71.2)
theorem dX7_init_0 : decode cX7_init 0 = .ok (.aload_n 0, 1) := by decide +kernel
theorem dX7_init_1 : decode cX7_init 1 = .ok (.invokespecial 3, 3) := by decide +kernel
theorem dX7_init_4 : decode cX7_init 4 = .ok (.aload_n 0, 1) := by decide +kernel
theorem dX7_init_5 : decode cX7_init 5 = .ok (.bipush 10, 2) := by decide +kernel
theorem dX7_init_7 : decode cX7_init 7 = .ok (.newarray .int, 2) := by decide +kernel
theorem dX7_init_9 : decode cX7_init 9 = .ok (.putfield 9, 3) := by decide +kernel
theorem dX7_init_12 : decode cX7_init 12 = .ok (.return_, 1) := by decide +kernel
def mX7_init (n : Nat) (a : Nat) (μ : Mem) : Option (Unit × Mem) :=
  inv μ 8 a
  ((nwA μ 0 10).bind fun p7 =>
  (pA p7.2 8 a 6 p7.1).bind fun μ9 =>
  some ((), μ9))
set_option maxRecDepth 100000 in
set_option maxHeartbeats 4000000 in
theorem cX7_init_ok (n : Nat) (a : Nat) (μ : Mem) : Mc yX7_init cX7_init 1 none 1 20 eV [aA a] μ (mX7_init n a μ) := by
  refine mc_of (L0 := [some (aA a)]) (k := 0) (by decide) rfl rfl (fun X Γ => ?_)
  unfold mX7_init
  refine sn_aload_n dX7_init_0 rfl ?_
  refine sn_objInit (ci := 7) dX7_init_1 (by decide) ml_X7_3 im_obj co_obj (by decide) (by decide) (Nat.le_of_ble_eq_true rfl) ?_
  refine sn_aload_n dX7_init_4 rfl ?_
  refine sn_bipush dX7_init_5 (by decide) ?_
  refine sn_newa (t := 0) dX7_init_7 (by decide) rfl ac_0 (fun p7 => ?_)
  refine sn_putA (ci := 7) (j := 6) dX7_init_9 fl_X7_9 (Or.inr ⟨_, rfl⟩) (Or.inr ⟨rfl, fun q h => by cases h; exact ⟨rfl, rfl⟩⟩) (fun μ9 => ?_)
  exact sn_vret dX7_init_12
theorem dX7_tellHourEnd_0 : decode cX7_tellHourEnd 0 = .ok (.aload_n 1, 1) := by decide +kernel
theorem dX7_tellHourEnd_1 : decode cX7_tellHourEnd 1 = .ok (.getfield 86, 3) := by decide +kernel
theorem dX7_tellHourEnd_4 : decode cX7_tellHourEnd 4 = .ok (.sipush 9999, 3) := by decide +kernel
theorem dX7_tellHourEnd_7 : decode cX7_tellHourEnd 7 = .ok (.if_icmp .lt 5, 3) := by decide +kernel
theorem dX7_tellHourEnd_10 : decode cX7_tellHourEnd 10 = .ok (.iconst 3, 1) := by decide +kernel
theorem dX7_tellHourEnd_11 : decode cX7_tellHourEnd 11 = .ok (.ireturn, 1) := by decide +kernel
theorem dX7_tellHourEnd_12 : decode cX7_tellHourEnd 12 = .ok (.aload_n 0, 1) := by decide +kernel
theorem dX7_tellHourEnd_13 : decode cX7_tellHourEnd 13 = .ok (.aload_n 1, 1) := by decide +kernel
theorem dX7_tellHourEnd_14 : decode cX7_tellHourEnd 14 = .ok (.invokevirtual 59, 3) := by decide +kernel
theorem dX7_tellHourEnd_17 : decode cX7_tellHourEnd 17 = .ok (.iconst 0, 1) := by decide +kernel
theorem dX7_tellHourEnd_18 : decode cX7_tellHourEnd 18 = .ok (.ireturn, 1) := by decide +kernel
def mX7_tellHourEnd (n : Nat) (a : Nat) (b1 : Nat) (μ : Mem) : Option (Int × Mem) :=
  (gI μ 2 b1 2).bind fun x1 =>
  if lt32 x1 9999 then
    (inv μ 8 a (mX7_endHour n a b1 μ)).bind fun p14 =>
    some (0, p14.2)
  else
  some (3, μ)
set_option maxRecDepth 100000 in
set_option maxHeartbeats 4000000 in
theorem cX7_tellHourEnd_ok (n : Nat) (a : Nat) (b1 : Nat) (μ : Mem) : Mc yX7_tellHourEnd cX7_tellHourEnd 2 (some .int) 5 131 eI [aA a, aA b1] μ (mX7_tellHourEnd n a b1 μ) := by
  refine mc_of (L0 := [some (aA a), some (aA b1)]) (k := 0) (by decide) rfl rfl (fun X Γ => ?_)
  unfold mX7_tellHourEnd
  refine sn_aload_n dX7_tellHourEnd_0 rfl ?_
  refine sn_getI (ci := 1) (j := 2) dX7_tellHourEnd_1 fl_X7_86 rfl (fun x1 => ?_)
  refine sn_sipush dX7_tellHourEnd_4 (by decide) ?_
  refine sn_icmp_lt (tgt := 12) dX7_tellHourEnd_7 (by decide) ?_ ?_
  · refine sn_aload_n dX7_tellHourEnd_12 rfl ?_
    refine sn_aload_n dX7_tellHourEnd_13 rfl ?_
    refine sn_callVV (vs := [aA b1]) (ci := 7) (cX7_endHour_ok n a b1 μ) dX7_tellHourEnd_14 cw_X7_59 rfl rfl rfl (by decide) (by decide) (Nat.le_of_ble_eq_true rfl) (fun p14 => ?_)
    refine sn_iconst dX7_tellHourEnd_17 ?_
    exact sn_iret dX7_tellHourEnd_18
  · refine sn_iconst dX7_tellHourEnd_10 ?_
    exact sn_iret dX7_tellHourEnd_11
theorem dX7_tellPull_0 : decode cX7_tellPull 0 = .ok (.lload_n 2, 1) := by decide +kernel
theorem dX7_tellPull_1 : decode cX7_tellPull 1 = .ok (.lconst 0, 1) := by decide +kernel
theorem dX7_tellPull_2 : decode cX7_tellPull 2 = .ok (.lcmp, 1) := by decide +kernel
theorem dX7_tellPull_3 : decode cX7_tellPull 3 = .ok (.ifCond .lt 11, 3) := by decide +kernel
theorem dX7_tellPull_6 : decode cX7_tellPull 6 = .ok (.lload_n 2, 1) := by decide +kernel
theorem dX7_tellPull_7 : decode cX7_tellPull 7 = .ok (.ldc2_w 89, 3) := by decide +kernel
theorem dX7_tellPull_10 : decode cX7_tellPull 10 = .ok (.lcmp, 1) := by decide +kernel
theorem dX7_tellPull_11 : decode cX7_tellPull 11 = .ok (.ifCond .lt 5, 3) := by decide +kernel
theorem dX7_tellPull_14 : decode cX7_tellPull 14 = .ok (.iconst 1, 1) := by decide +kernel
theorem dX7_tellPull_15 : decode cX7_tellPull 15 = .ok (.ireturn, 1) := by decide +kernel
theorem dX7_tellPull_16 : decode cX7_tellPull 16 = .ok (.lload_n 2, 1) := by decide +kernel
theorem dX7_tellPull_17 : decode cX7_tellPull 17 = .ok (.l2i, 1) := by decide +kernel
theorem dX7_tellPull_18 : decode cX7_tellPull 18 = .ok (.bipush 20, 2) := by decide +kernel
theorem dX7_tellPull_20 : decode cX7_tellPull 20 = .ok (.idiv, 1) := by decide +kernel
theorem dX7_tellPull_21 : decode cX7_tellPull 21 = .ok (.istore 4, 2) := by decide +kernel
theorem dX7_tellPull_23 : decode cX7_tellPull 23 = .ok (.lload_n 2, 1) := by decide +kernel
theorem dX7_tellPull_24 : decode cX7_tellPull 24 = .ok (.l2i, 1) := by decide +kernel
theorem dX7_tellPull_25 : decode cX7_tellPull 25 = .ok (.bipush 20, 2) := by decide +kernel
theorem dX7_tellPull_27 : decode cX7_tellPull 27 = .ok (.irem, 1) := by decide +kernel
theorem dX7_tellPull_28 : decode cX7_tellPull 28 = .ok (.istore 5, 2) := by decide +kernel
theorem dX7_tellPull_30 : decode cX7_tellPull 30 = .ok (.aload_n 1, 1) := by decide +kernel
theorem dX7_tellPull_31 : decode cX7_tellPull 31 = .ok (.iload 5, 2) := by decide +kernel
theorem dX7_tellPull_33 : decode cX7_tellPull 33 = .ok (.iload 4, 2) := by decide +kernel
theorem dX7_tellPull_35 : decode cX7_tellPull 35 = .ok (.invokevirtual 91, 3) := by decide +kernel
theorem dX7_tellPull_38 : decode cX7_tellPull 38 = .ok (.ifCond .ne 5, 3) := by decide +kernel
theorem dX7_tellPull_41 : decode cX7_tellPull 41 = .ok (.iconst 1, 1) := by decide +kernel
theorem dX7_tellPull_42 : decode cX7_tellPull 42 = .ok (.ireturn, 1) := by decide +kernel
theorem dX7_tellPull_43 : decode cX7_tellPull 43 = .ok (.aload_n 0, 1) := by decide +kernel
theorem dX7_tellPull_44 : decode cX7_tellPull 44 = .ok (.getfield 9, 3) := by decide +kernel
theorem dX7_tellPull_47 : decode cX7_tellPull 47 = .ok (.iload 4, 2) := by decide +kernel
theorem dX7_tellPull_49 : decode cX7_tellPull 49 = .ok (.iaload, 1) := by decide +kernel
theorem dX7_tellPull_50 : decode cX7_tellPull 50 = .ok (.iconst (-1), 1) := by decide +kernel
theorem dX7_tellPull_51 : decode cX7_tellPull 51 = .ok (.if_icmp .eq 5, 3) := by decide +kernel
theorem dX7_tellPull_54 : decode cX7_tellPull 54 = .ok (.iconst 2, 1) := by decide +kernel
theorem dX7_tellPull_55 : decode cX7_tellPull 55 = .ok (.ireturn, 1) := by decide +kernel
theorem dX7_tellPull_56 : decode cX7_tellPull 56 = .ok (.aload_n 0, 1) := by decide +kernel
theorem dX7_tellPull_57 : decode cX7_tellPull 57 = .ok (.iload 4, 2) := by decide +kernel
theorem dX7_tellPull_59 : decode cX7_tellPull 59 = .ok (.iload 5, 2) := by decide +kernel
theorem dX7_tellPull_61 : decode cX7_tellPull 61 = .ok (.invokevirtual 55, 3) := by decide +kernel
theorem dX7_tellPull_64 : decode cX7_tellPull 64 = .ok (.iconst 0, 1) := by decide +kernel
theorem dX7_tellPull_65 : decode cX7_tellPull 65 = .ok (.ireturn, 1) := by decide +kernel
def mX7_tellPull (n : Nat) (a : Nat) (b1 : Nat) (b2 : Int) (μ : Mem) : Option (Int × Mem) :=
  if lt32 (oLcmp b2 0) 0 then
    some (1, μ)
  else
  if lt32 (oLcmp b2 200) 0 then
    (inv μ 2 b1 (mX1_hangsOpen n b1 (oRem b2 20) (oDiv b2 20) μ)).bind fun p35 =>
    if eq32 p35.1 0 then
      some (1, p35.2)
    else
    (gA p35.2 8 a 6).bind fun x44 =>
    (ldI p35.2 0 x44 (oDiv b2 20)).bind fun x49 =>
    if eq32 x49 (-1) then
      (inv p35.2 8 a (mX7_addPull n a (oDiv b2 20) (oRem b2 20) p35.2)).bind fun p61 =>
      some (0, p61.2)
    else
    some (2, p35.2)
  else
  some (1, μ)
set_option maxRecDepth 100000 in
set_option maxHeartbeats 4000000 in
theorem cX7_tellPull_ok (n : Nat) (a : Nat) (b1 : Nat) (b2 : Int) (μ : Mem) : Mc yX7_tellPull cX7_tellPull 6 (some .int) 3 65 eI [aA a, aA b1, aJ b2] μ (mX7_tellPull n a b1 b2 μ) := by
  refine mc_of (L0 := [some (aA a), some (aA b1), some (aJ b2), none, none, none]) (k := 2) (by decide) rfl rfl (fun X Γ => ?_)
  unfold mX7_tellPull
  refine sn_lload_n dX7_tellPull_0 rfl ?_
  refine sn_lconst (v := 0) dX7_tellPull_1 (by decide) ?_
  refine sn_lcmp dX7_tellPull_2 ?_
  refine sn_if_lt (tgt := 14) dX7_tellPull_3 (by decide) ?_ ?_
  · refine sn_iconst dX7_tellPull_14 ?_
    exact sn_iret dX7_tellPull_15
  · refine sn_lload_n dX7_tellPull_6 rfl ?_
    refine sn_ldc2 (v := 200) dX7_tellPull_7 k_X7_89 (by decide) ?_
    refine sn_lcmp dX7_tellPull_10 ?_
    refine sn_if_lt (tgt := 16) dX7_tellPull_11 (by decide) ?_ ?_
    · refine sn_lload_n dX7_tellPull_16 rfl ?_
      refine sn_l2i dX7_tellPull_17 ?_
      refine sn_bipush dX7_tellPull_18 (by decide) ?_
      refine sn_idivK dX7_tellPull_20 (by decide) ?_
      refine sn_istore (L' := [some (aA a), some (aA b1), some (aJ b2), none, some (aI (oDiv b2 20)), none]) dX7_tellPull_21 (by decide) rfl ?_
      refine sn_lload_n dX7_tellPull_23 rfl ?_
      refine sn_l2i dX7_tellPull_24 ?_
      refine sn_bipush dX7_tellPull_25 (by decide) ?_
      refine sn_iremK dX7_tellPull_27 (by decide) ?_
      refine sn_istore (L' := [some (aA a), some (aA b1), some (aJ b2), none, some (aI (oDiv b2 20)), some (aI (oRem b2 20))]) dX7_tellPull_28 (by decide) rfl ?_
      refine sn_aload_n dX7_tellPull_30 rfl ?_
      refine sn_iload dX7_tellPull_31 rfl ?_
      refine sn_iload dX7_tellPull_33 rfl ?_
      refine sn_callVI (vs := [aI (oRem b2 20), aI (oDiv b2 20)]) (ci := 1) (cX1_hangsOpen_ok n b1 (oRem b2 20) (oDiv b2 20) μ) dX7_tellPull_35 cw_X7_91 rfl rfl rfl (by decide) (by decide) (Nat.le_of_ble_eq_true rfl) (fun p35 => ?_)
      refine sn_if_ne (tgt := 43) dX7_tellPull_38 (by decide) ?_ ?_
      · refine sn_aload_n dX7_tellPull_43 rfl ?_
        refine sn_getA (ci := 7) (j := 6) dX7_tellPull_44 fl_X7_9 (by decide) (fun x44 => ?_)
        refine sn_iload dX7_tellPull_47 rfl ?_
        refine sn_iald dX7_tellPull_49 (fun x49 => ?_)
        refine sn_iconst dX7_tellPull_50 ?_
        refine sn_icmp_eq (tgt := 56) dX7_tellPull_51 (by decide) ?_ ?_
        · refine sn_aload_n dX7_tellPull_56 rfl ?_
          refine sn_iload dX7_tellPull_57 rfl ?_
          refine sn_iload dX7_tellPull_59 rfl ?_
          refine sn_callVV (vs := [aI (oDiv b2 20), aI (oRem b2 20)]) (ci := 7) (cX7_addPull_ok n a (oDiv b2 20) (oRem b2 20) p35.2) dX7_tellPull_61 cw_X7_55 rfl rfl rfl (by decide) (by decide) (Nat.le_of_ble_eq_true rfl) (fun p61 => ?_)
          refine sn_iconst dX7_tellPull_64 ?_
          exact sn_iret dX7_tellPull_65
        · refine sn_iconst dX7_tellPull_54 ?_
          exact sn_iret dX7_tellPull_55
      · refine sn_iconst dX7_tellPull_41 ?_
        exact sn_iret dX7_tellPull_42
    · refine sn_iconst dX7_tellPull_14 ?_
      exact sn_iret dX7_tellPull_15
theorem dX7_doTold_0 : decode cX7_doTold 0 = .ok (.aload_n 0, 1) := by decide +kernel
theorem dX7_doTold_1 : decode cX7_doTold 1 = .ok (.invokevirtual 46, 3) := by decide +kernel
theorem dX7_doTold_4 : decode cX7_doTold 4 = .ok (.iconst 0, 1) := by decide +kernel
theorem dX7_doTold_5 : decode cX7_doTold 5 = .ok (.istore_n 3, 1) := by decide +kernel
theorem dX7_doTold_6 : decode cX7_doTold 6 = .ok (.iload_n 3, 1) := by decide +kernel
theorem dX7_doTold_7 : decode cX7_doTold 7 = .ok (.aload_n 2, 1) := by decide +kernel
theorem dX7_doTold_8 : decode cX7_doTold 8 = .ok (.getfield 67, 3) := by decide +kernel
theorem dX7_doTold_11 : decode cX7_doTold 11 = .ok (.if_icmp .gt 77, 3) := by decide +kernel
theorem dX7_doTold_14 : decode cX7_doTold 14 = .ok (.aload_n 0, 1) := by decide +kernel
theorem dX7_doTold_15 : decode cX7_doTold 15 = .ok (.getfield 19, 3) := by decide +kernel
theorem dX7_doTold_18 : decode cX7_doTold 18 = .ok (.ifCond .ne 70, 3) := by decide +kernel
theorem dX7_doTold_21 : decode cX7_doTold 21 = .ok (.iload_n 3, 1) := by decide +kernel
theorem dX7_doTold_22 : decode cX7_doTold 22 = .ok (.aload_n 2, 1) := by decide +kernel
theorem dX7_doTold_23 : decode cX7_doTold 23 = .ok (.getfield 67, 3) := by decide +kernel
theorem dX7_doTold_26 : decode cX7_doTold 26 = .ok (.if_icmp .ge 11, 3) := by decide +kernel
theorem dX7_doTold_29 : decode cX7_doTold 29 = .ok (.aload_n 2, 1) := by decide +kernel
theorem dX7_doTold_30 : decode cX7_doTold 30 = .ok (.iload_n 3, 1) := by decide +kernel
theorem dX7_doTold_31 : decode cX7_doTold 31 = .ok (.invokevirtual 72, 3) := by decide +kernel
theorem dX7_doTold_34 : decode cX7_doTold 34 = .ok (.goto 6, 3) := by decide +kernel
theorem dX7_doTold_37 : decode cX7_doTold 37 = .ok (.ldc2_w 76, 3) := by decide +kernel
theorem dX7_doTold_40 : decode cX7_doTold 40 = .ok (.lstore 4, 2) := by decide +kernel
theorem dX7_doTold_42 : decode cX7_doTold 42 = .ok (.aload_n 0, 1) := by decide +kernel
theorem dX7_doTold_43 : decode cX7_doTold 43 = .ok (.lload 4, 2) := by decide +kernel
theorem dX7_doTold_45 : decode cX7_doTold 45 = .ok (.ldc2_w 76, 3) := by decide +kernel
theorem dX7_doTold_48 : decode cX7_doTold 48 = .ok (.lcmp, 1) := by decide +kernel
theorem dX7_doTold_49 : decode cX7_doTold 49 = .ok (.ifCond .ne 11, 3) := by decide +kernel
theorem dX7_doTold_52 : decode cX7_doTold 52 = .ok (.aload_n 0, 1) := by decide +kernel
theorem dX7_doTold_53 : decode cX7_doTold 53 = .ok (.aload_n 1, 1) := by decide +kernel
theorem dX7_doTold_54 : decode cX7_doTold 54 = .ok (.invokevirtual 78, 3) := by decide +kernel
theorem dX7_doTold_57 : decode cX7_doTold 57 = .ok (.goto 10, 3) := by decide +kernel
theorem dX7_doTold_60 : decode cX7_doTold 60 = .ok (.aload_n 0, 1) := by decide +kernel
theorem dX7_doTold_61 : decode cX7_doTold 61 = .ok (.aload_n 1, 1) := by decide +kernel
theorem dX7_doTold_62 : decode cX7_doTold 62 = .ok (.lload 4, 2) := by decide +kernel
theorem dX7_doTold_64 : decode cX7_doTold 64 = .ok (.invokevirtual 82, 3) := by decide +kernel
theorem dX7_doTold_67 : decode cX7_doTold 67 = .ok (.putfield 19, 3) := by decide +kernel
theorem dX7_doTold_70 : decode cX7_doTold 70 = .ok (.aload_n 0, 1) := by decide +kernel
theorem dX7_doTold_71 : decode cX7_doTold 71 = .ok (.getfield 19, 3) := by decide +kernel
theorem dX7_doTold_74 : decode cX7_doTold 74 = .ok (.ifCond .eq 8, 3) := by decide +kernel
theorem dX7_doTold_77 : decode cX7_doTold 77 = .ok (.aload_n 0, 1) := by decide +kernel
theorem dX7_doTold_78 : decode cX7_doTold 78 = .ok (.iload_n 3, 1) := by decide +kernel
theorem dX7_doTold_79 : decode cX7_doTold 79 = .ok (.putfield 15, 3) := by decide +kernel
theorem dX7_doTold_82 : decode cX7_doTold 82 = .ok (.iinc 3 1, 3) := by decide +kernel
theorem dX7_doTold_85 : decode cX7_doTold 85 = .ok (.goto (-79), 3) := by decide +kernel
theorem dX7_doTold_88 : decode cX7_doTold 88 = .ok (.return_, 1) := by decide +kernel
def mX7_doTold (n : Nat) (a : Nat) (b1 : Nat) (b2 : Nat) (μ : Mem) : Option (Unit × Mem) :=
  (inv μ 8 a (mX7_begin n a μ)).bind fun p1 =>
  lp (fun nx6 (v6 : Int) (μ6 : Mem) =>
  (gI μ6 4 b2 0).bind fun x8 =>
  if lt32 x8 v6 then
    some ((), μ6)
  else
  (gI μ6 8 a 1).bind fun x15 =>
  if eq32 x15 0 then
    (gI μ6 4 b2 0).bind fun x23 =>
    jn (fun (v40 : Int) (μ40 : Mem) =>
    jn (fun (v67 : Int) (μ67 : Mem) =>
    (pI μ67 8 a 1 v67).bind fun μ67 =>
    (gI μ67 8 a 1).bind fun x71 =>
    if eq32 x71 0 then
      nx6 (v6 + 1) μ67
    else
    (pI μ67 8 a 0 v6).bind fun μ79 =>
    nx6 (v6 + 1) μ79) (fun j67 =>
    if eq32 (oLcmp v40 (-1)) 0 then
      (inv μ40 8 a (mX7_tellHourEnd n a b1 μ40)).bind fun p54 =>
      j67 p54.1 p54.2
    else
    (inv μ40 8 a (mX7_tellPull n a b1 v40 μ40)).bind fun p64 =>
    j67 p64.1 p64.2)) (fun j40 =>
    if lt32 v6 x23 then
      (inv μ6 4 b2 (mX3_get n b2 v6 μ6)).bind fun p31 =>
      j40 p31.1 p31.2
    else
    j40 (-1) μ6)
  else
  some ((), μ6)) n 0 p1.2
set_option maxRecDepth 100000 in
set_option maxHeartbeats 4000000 in
theorem cX7_doTold_ok (n : Nat) (a : Nat) (b1 : Nat) (b2 : Nat) (μ : Mem) : Mc yX7_doTold cX7_doTold 6 none 6 152 eV [aA a, aA b1, aA b2] μ (mX7_doTold n a b1 b2 μ) := by
  refine mc_of (L0 := [some (aA a), some (aA b1), some (aA b2), none, none, none]) (k := 3) (by decide) rfl rfl (fun X Γ => ?_)
  unfold mX7_doTold
  refine sn_aload_n dX7_doTold_0 rfl ?_
  refine sn_callVV (vs := []) (ci := 7) (cX7_begin_ok n a μ) dX7_doTold_1 cw_X7_46 rfl rfl rfl (by decide) (by decide) (Nat.le_of_ble_eq_true rfl) (fun p1 => ?_)
  refine sn_iconst dX7_doTold_4 ?_
  refine sn_istore_n (L' := [some (aA a), some (aA b1), some (aA b2), some (aI 0), none, none]) dX7_doTold_5 (by decide) rfl ?_
  refine sn_lp (La := fun v6 : Int => [some (aA a), some (aA b1), some (aA b2), some (aI v6), none, none]) ?_ n 0 p1.2
  intro nx6 hnx6 v6 μ6
  refine sn_iload_n dX7_doTold_6 rfl ?_
  refine sn_aload_n dX7_doTold_7 rfl ?_
  refine sn_getI (ci := 3) (j := 0) dX7_doTold_8 fl_X7_67 rfl (fun x8 => ?_)
  refine sn_icmp_gt (tgt := 88) dX7_doTold_11 (by decide) ?_ ?_
  · exact sn_vret dX7_doTold_88
  · refine sn_aload_n dX7_doTold_14 rfl ?_
    refine sn_getI (ci := 7) (j := 1) dX7_doTold_15 fl_X7_19 rfl (fun x15 => ?_)
    refine sn_if_ne (tgt := 88) dX7_doTold_18 (by decide) ?_ ?_
    · exact sn_vret dX7_doTold_88
    · refine sn_iload_n dX7_doTold_21 rfl ?_
      refine sn_aload_n dX7_doTold_22 rfl ?_
      refine sn_getI (ci := 3) (j := 0) dX7_doTold_23 fl_X7_67 rfl (fun x23 => ?_)
      refine sn_jn (pcj := 40) (La := fun v40 : Int => [some (aA a), some (aA b1), some (aA b2), some (aI v6), none, none]) (Sa := fun v40 : Int => [aJ v40]) ?_ ?_
      · intro v40 μ40
        refine sn_lstore (L' := [some (aA a), some (aA b1), some (aA b2), some (aI v6), some (aJ v40), none]) dX7_doTold_40 (by decide) rfl ?_
        refine sn_aload_n dX7_doTold_42 rfl ?_
        refine sn_lload dX7_doTold_43 rfl ?_
        refine sn_ldc2 (v := (-1)) dX7_doTold_45 k_X7_76 (by decide) ?_
        refine sn_lcmp dX7_doTold_48 ?_
        refine sn_jn (pcj := 67) (La := fun v67 : Int => [some (aA a), some (aA b1), some (aA b2), some (aI v6), none, none]) (Sa := fun v67 : Int => [aI v67, aA a]) ?_ ?_
        · intro v67 μ67
          refine sn_putI (ci := 7) (j := 1) dX7_doTold_67 fl_X7_19 rfl (fun q h => by cases h; rfl) (fun μ67 => ?_)
          refine sn_aload_n dX7_doTold_70 rfl ?_
          refine sn_getI (ci := 7) (j := 1) dX7_doTold_71 fl_X7_19 rfl (fun x71 => ?_)
          refine sn_if_eq (tgt := 82) dX7_doTold_74 (by decide) ?_ ?_
          · refine sn_iinc (L' := [some (aA a), some (aA b1), some (aA b2), some (aI (v6 + 1)), none, none]) dX7_doTold_82 rfl (by decide) rfl ?_
            refine sn_goto (tgt := 6) dX7_doTold_85 (by decide) ?_
            exact hnx6 (v6 + 1) μ67
          · refine sn_aload_n dX7_doTold_77 rfl ?_
            refine sn_iload_n dX7_doTold_78 rfl ?_
            refine sn_putI (ci := 7) (j := 0) dX7_doTold_79 fl_X7_15 rfl (fun q h => by cases h; rfl) (fun μ79 => ?_)
            refine sn_iinc (L' := [some (aA a), some (aA b1), some (aA b2), some (aI (v6 + 1)), none, none]) dX7_doTold_82 rfl (by decide) rfl ?_
            refine sn_goto (tgt := 6) dX7_doTold_85 (by decide) ?_
            exact hnx6 (v6 + 1) μ79
        intro j67 hj67
        refine sn_if_ne (tgt := 60) dX7_doTold_49 (by decide) ?_ ?_
        · refine sn_aload_n dX7_doTold_60 rfl ?_
          refine sn_aload_n dX7_doTold_61 rfl ?_
          refine sn_lload dX7_doTold_62 rfl ?_
          refine sn_callVI (vs := [aA b1, aJ v40]) (ci := 7) (cX7_tellPull_ok n a b1 v40 μ40) dX7_doTold_64 cw_X7_82 rfl rfl rfl (by decide) (by decide) (Nat.le_of_ble_eq_true rfl) (fun p64 => ?_)
          exact sn_mask (L' := [some (aA a), some (aA b1), some (aA b2), some (aI v6), none, none]) [true, true, true, true, false, false] rfl (hj67 p64.1 p64.2)
        · refine sn_aload_n dX7_doTold_52 rfl ?_
          refine sn_aload_n dX7_doTold_53 rfl ?_
          refine sn_callVI (vs := [aA b1]) (ci := 7) (cX7_tellHourEnd_ok n a b1 μ40) dX7_doTold_54 cw_X7_78 rfl rfl rfl (by decide) (by decide) (Nat.le_of_ble_eq_true rfl) (fun p54 => ?_)
          refine sn_goto (tgt := 67) dX7_doTold_57 (by decide) ?_
          exact sn_mask (L' := [some (aA a), some (aA b1), some (aA b2), some (aI v6), none, none]) [true, true, true, true, false, false] rfl (hj67 p54.1 p54.2)
      intro j40 hj40
      refine sn_icmp_ge (tgt := 37) dX7_doTold_26 (by decide) ?_ ?_
      · refine sn_ldc2 (v := (-1)) dX7_doTold_37 k_X7_76 (by decide) ?_
        exact hj40 (-1) μ6
      · refine sn_aload_n dX7_doTold_29 rfl ?_
        refine sn_iload_n dX7_doTold_30 rfl ?_
        refine sn_callVJ (vs := [aI v6]) (ci := 3) (cX3_get_ok n b2 v6 μ6) dX7_doTold_31 cw_X7_72 rfl rfl rfl (by decide) (by decide) (Nat.le_of_ble_eq_true rfl) (fun p31 => ?_)
        refine sn_goto (tgt := 40) dX7_doTold_34 (by decide) ?_
        exact hj40 p31.1 p31.2
