/-! the law: its calls one by one -/
def lc_0 (n a c m : Nat) (nx : Int → Mem → Option (Int × Mem)) (v : Int) (μ : Mem) : Option (Int × Mem) :=
    (ldI μ 7 a (v + 1)).bind fun x205 =>
    (ldI μ 7 a (v + 2)).bind fun x210 =>
    (ldI μ 7 a (v + 3)).bind fun x215 =>
    (ldI μ 7 a (v + 4)).bind fun x220 =>
    (ldI μ 7 a (v + 5)).bind fun x225 =>
    (inv μ 11 c (mX10_feed n c x205 x210 x215 x220 x225 μ)).bind fun p226 =>
    (ldI p226.2 7 a (v + 1)).bind fun x234 =>
    (ldI p226.2 7 a (v + 2)).bind fun x239 =>
    (ldI p226.2 7 a (v + 3)).bind fun x244 =>
    (ldI p226.2 7 a (v + 4)).bind fun x249 =>
    (ldI p226.2 7 a (v + 5)).bind fun x254 =>
    (inv p226.2 12 m (mX11_feed n m x234 x239 x244 x249 x254 p226.2)).bind fun p255 =>
    if eq32 p226.1 p255.1 then
      nx (v + 6) p255.2
    else
    retZ 0 p255.2
def lc_1 (n a c m : Nat) (nx : Int → Mem → Option (Int × Mem)) (v : Int) (μ : Mem) : Option (Int × Mem) :=
    (ldI μ 7 a (v + 1)).bind fun x268 =>
    (inv μ 11 c (mX10_land n c x268 μ)).bind fun p269 =>
    (ldI p269.2 7 a (v + 1)).bind fun x277 =>
    (inv p269.2 12 m (mX11_land n m x277 p269.2)).bind fun p278 =>
    if eq32 p269.1 p278.1 then
      nx (v + 6) p278.2
    else
    retZ 0 p278.2
def lc_2 (n a c m : Nat) (nx : Int → Mem → Option (Int × Mem)) (v : Int) (μ : Mem) : Option (Int × Mem) :=
    (ldI μ 7 a (v + 1)).bind fun x291 =>
    (inv μ 11 c (mX10_fault n c x291 μ)).bind fun p292 =>
    (ldI p292.2 7 a (v + 1)).bind fun x300 =>
    (inv p292.2 12 m (mX11_fault n m x300 p292.2)).bind fun p301 =>
    if eq32 p292.1 p301.1 then
      nx (v + 6) p301.2
    else
    retZ 0 p301.2
def lc_3 (n a c m : Nat) (nx : Int → Mem → Option (Int × Mem)) (v : Int) (μ : Mem) : Option (Int × Mem) :=
    (ldI μ 7 a (v + 1)).bind fun x314 =>
    (ldI μ 7 a (v + 2)).bind fun x319 =>
    (inv μ 11 c (mX10_house n c x314 x319 μ)).bind fun p320 =>
    (ldI p320.2 7 a (v + 1)).bind fun x328 =>
    (ldI p320.2 7 a (v + 2)).bind fun x333 =>
    (inv p320.2 12 m (mX11_house n m x328 x333 p320.2)).bind fun p334 =>
    if eq32 p320.1 p334.1 then
      nx (v + 6) p334.2
    else
    retZ 0 p334.2
def lc_4 (n a c m : Nat) (nx : Int → Mem → Option (Int × Mem)) (v : Int) (μ : Mem) : Option (Int × Mem) :=
    (ldI μ 7 a (v + 1)).bind fun x347 =>
    (ldI μ 7 a (v + 2)).bind fun x352 =>
    (inv μ 11 c (mX10_rope n c x347 x352 μ)).bind fun p353 =>
    (ldI p353.2 7 a (v + 1)).bind fun x361 =>
    (ldI p353.2 7 a (v + 2)).bind fun x366 =>
    (inv p353.2 12 m (mX11_rope n m x361 x366 p353.2)).bind fun p367 =>
    if eq32 p353.1 p367.1 then
      nx (v + 6) p367.2
    else
    retZ 0 p367.2
def lc_5 (n a c m : Nat) (nx : Int → Mem → Option (Int × Mem)) (v : Int) (μ : Mem) : Option (Int × Mem) :=
    (inv μ 11 c (mX10_pass n c μ)).bind fun p376 =>
    (inv p376.2 12 m (mX11_pass n m p376.2)).bind fun p380 =>
    if eq32 p376.1 p380.1 then
      nx (v + 6) p380.2
    else
    retZ 0 p380.2
def lc_6 (n a c m : Nat) (nx : Int → Mem → Option (Int × Mem)) (v : Int) (μ : Mem) : Option (Int × Mem) :=
    (ldI μ 7 a (v + 1)).bind fun x393 =>
    (ldI μ 7 a (v + 2)).bind fun x398 =>
    (inv μ 11 c (mX10_pull n c x393 x398 μ)).bind fun p399 =>
    (ldI p399.2 7 a (v + 1)).bind fun x407 =>
    (ldI p399.2 7 a (v + 2)).bind fun x412 =>
    (inv p399.2 12 m (mX11_pull n m x407 x412 p399.2)).bind fun p413 =>
    if eq32 p399.1 p413.1 then
      nx (v + 6) p413.2
    else
    retZ 0 p413.2
def lc_7 (n a c m : Nat) (nx : Int → Mem → Option (Int × Mem)) (v : Int) (μ : Mem) : Option (Int × Mem) :=
    (ldI μ 7 a (v + 1)).bind fun x426 =>
    (ldI μ 7 a (v + 2)).bind fun x431 =>
    (inv μ 11 c (mX10_judge n c x426 x431 μ)).bind fun p432 =>
    (ldI p432.2 7 a (v + 1)).bind fun x440 =>
    (ldI p432.2 7 a (v + 2)).bind fun x445 =>
    (inv p432.2 12 m (mX11_judge n m x440 x445 p432.2)).bind fun p446 =>
    if eq32 p432.1 p446.1 then
      nx (v + 6) p446.2
    else
    retZ 0 p446.2
def lc_8 (n a c m : Nat) (nx : Int → Mem → Option (Int × Mem)) (v : Int) (μ : Mem) : Option (Int × Mem) :=
    (ldI μ 7 a (v + 1)).bind fun x459 =>
    (inv μ 11 c (mX10_perform n c x459 μ)).bind fun p460 =>
    (ldI p460.2 7 a (v + 1)).bind fun x468 =>
    (inv p460.2 12 m (mX11_perform n m x468 p460.2)).bind fun p469 =>
    if eq32 p460.1 p469.1 then
      nx (v + 6) p469.2
    else
    retZ 0 p469.2
def lc_9 (n a c m : Nat) (nx : Int → Mem → Option (Int × Mem)) (v : Int) (μ : Mem) : Option (Int × Mem) :=
    (ldI μ 7 a (v + 1)).bind fun x482 =>
    (ldI μ 7 a (v + 2)).bind fun x487 =>
    (inv μ 11 c (mX10_custom n c x482 x487 μ)).bind fun p488 =>
    (ldI p488.2 7 a (v + 1)).bind fun x496 =>
    (ldI p488.2 7 a (v + 2)).bind fun x501 =>
    (inv p488.2 12 m (mX11_custom n m x496 x501 p488.2)).bind fun p502 =>
    if eq32 p488.1 p502.1 then
      nx (v + 6) p502.2
    else
    retZ 0 p502.2
def lc_10 (n a c m : Nat) (nx : Int → Mem → Option (Int × Mem)) (v : Int) (μ : Mem) : Option (Int × Mem) :=
    (ldI μ 7 a (v + 1)).bind fun x515 =>
    (inv μ 11 c (mX10_live n c x515 μ)).bind fun p516 =>
    (ldI p516.2 7 a (v + 1)).bind fun x524 =>
    (inv p516.2 12 m (mX11_live n m x524 p516.2)).bind fun p525 =>
    if eq32 p516.1 p525.1 then
      nx (v + 6) p525.2
    else
    retZ 0 p525.2
def lc_11 (n a c m : Nat) (nx : Int → Mem → Option (Int × Mem)) (v : Int) (μ : Mem) : Option (Int × Mem) :=
    (ldI μ 7 a (v + 1)).bind fun x538 =>
    (ldI μ 7 a (v + 2)).bind fun x543 =>
    (inv μ 11 c (mX10_drought n c x538 x543 μ)).bind fun p544 =>
    (ldI p544.2 7 a (v + 1)).bind fun x552 =>
    (ldI p544.2 7 a (v + 2)).bind fun x557 =>
    (inv p544.2 12 m (mX11_drought n m x552 x557 p544.2)).bind fun p558 =>
    if eq32 p544.1 p558.1 then
      nx (v + 6) p558.2
    else
    retZ 0 p558.2
def lc_12 (n a c m : Nat) (nx : Int → Mem → Option (Int × Mem)) (v : Int) (μ : Mem) : Option (Int × Mem) :=
    (ldI μ 7 a (v + 1)).bind fun x571 =>
    (inv μ 11 c (mX10_cut n c x571 μ)).bind fun p572 =>
    (ldI p572.2 7 a (v + 1)).bind fun x580 =>
    (inv p572.2 12 m (mX11_cut n m x580 p572.2)).bind fun p581 =>
    if eq32 p572.1 p581.1 then
      nx (v + 6) p581.2
    else
    retZ 0 p581.2
def lc_13 (n a c m : Nat) (nx : Int → Mem → Option (Int × Mem)) (v : Int) (μ : Mem) : Option (Int × Mem) :=
    (ldI μ 7 a (v + 1)).bind fun x594 =>
    (ldI μ 7 a (v + 2)).bind fun x599 =>
    jn (fun (v608 : Int) (μ608 : Mem) =>
    (ldI μ608 7 a (v + 3)).bind fun x612 =>
    (inv μ608 11 c (mX10_stones n c x594 v608 x612 μ608)).bind fun p613 =>
    (ldI p613.2 7 a (v + 1)).bind fun x621 =>
    (ldI p613.2 7 a (v + 2)).bind fun x626 =>
    jn (fun (v635 : Int) (μ635 : Mem) =>
    (ldI μ635 7 a (v + 3)).bind fun x639 =>
    (inv μ635 12 m (mX11_stones n m x621 v635 x639 μ635)).bind fun p640 =>
    if eq32 p613.1 p640.1 then
      nx (v + 6) p640.2
    else
    retZ 0 p640.2) (fun j635 =>
    if eq32 x626 0 then
      j635 0 p613.2
    else
    j635 1 p613.2)) (fun j608 =>
    if eq32 x599 0 then
      j608 0 μ
    else
    j608 1 μ)
def lc_14 (n a c m : Nat) (nx : Int → Mem → Option (Int × Mem)) (v : Int) (μ : Mem) : Option (Int × Mem) :=
    (inv μ 11 c (mX10_rests n c μ)).bind fun p649 =>
    (inv p649.2 12 m (mX11_rests n m p649.2)).bind fun p653 =>
    if eq32 p649.1 p653.1 then
      nx (v + 6) p653.2
    else
    retZ 0 p653.2
def lc_15 (n a c m : Nat) (nx : Int → Mem → Option (Int × Mem)) (v : Int) (μ : Mem) : Option (Int × Mem) :=
    (inv μ 11 c (mX10_calm n c μ)).bind fun p662 =>
    (inv p662.2 12 m (mX11_calm n m p662.2)).bind fun p666 =>
    if eq32 p662.1 p666.1 then
      nx (v + 6) p666.2
    else
    retZ 0 p666.2
def lc_16 (n a c m : Nat) (nx : Int → Mem → Option (Int × Mem)) (v : Int) (μ : Mem) : Option (Int × Mem) :=
    (inv μ 11 c (mX10_even n c μ)).bind fun p675 =>
    (inv p675.2 12 m (mX11_even n m p675.2)).bind fun p679 =>
    if eq32 p675.1 p679.1 then
      nx (v + 6) p679.2
    else
    retZ 0 p679.2
def lc_17 (n a c m : Nat) (nx : Int → Mem → Option (Int × Mem)) (v : Int) (μ : Mem) : Option (Int × Mem) :=
    (ldI μ 7 a (v + 1)).bind fun x692 =>
    (ldI μ 7 a (v + 2)).bind fun x697 =>
    (inv μ 11 c (mX10_lifts n c x692 x697 μ)).bind fun p698 =>
    (ldI p698.2 7 a (v + 1)).bind fun x706 =>
    (ldI p698.2 7 a (v + 2)).bind fun x711 =>
    (inv p698.2 12 m (mX11_lifts n m x706 x711 p698.2)).bind fun p712 =>
    if eq32 p698.1 p712.1 then
      nx (v + 6) p712.2
    else
    retZ 0 p712.2
def lc_18 (n a c m : Nat) (nx : Int → Mem → Option (Int × Mem)) (v : Int) (μ : Mem) : Option (Int × Mem) :=
    (inv μ 11 c (mX10_together n c μ)).bind fun p721 =>
    (inv p721.2 12 m (mX11_together n m p721.2)).bind fun p725 =>
    if eq32 p721.1 p725.1 then
      nx (v + 6) p725.2
    else
    retZ 0 p725.2
def lc_19 (n a c m : Nat) (nx : Int → Mem → Option (Int × Mem)) (v : Int) (μ : Mem) : Option (Int × Mem) :=
    (inv μ 11 c (mX10_parted n c μ)).bind fun p734 =>
    (inv p734.2 12 m (mX11_parted n m p734.2)).bind fun p738 =>
    if eq32 p734.1 p738.1 then
      nx (v + 6) p738.2
    else
    retZ 0 p738.2
def lc_20 (n a c m : Nat) (nx : Int → Mem → Option (Int × Mem)) (v : Int) (μ : Mem) : Option (Int × Mem) :=
    (inv μ 11 c (mX10_ring n c μ)).bind fun p747 =>
    (inv p747.2 12 m (mX11_ring n m p747.2)).bind fun p751 =>
    if eq32 p747.1 p751.1 then
      nx (v + 6) p751.2
    else
    retZ 0 p751.2
def lc_21 (n a c m : Nat) (nx : Int → Mem → Option (Int × Mem)) (v : Int) (μ : Mem) : Option (Int × Mem) :=
    (ldI μ 7 a (v + 1)).bind fun x764 =>
    (inv μ 11 c (mX10_neighbours n c x764 μ)).bind fun p765 =>
    (ldI p765.2 7 a (v + 1)).bind fun x773 =>
    (inv p765.2 12 m (mX11_neighbours n m x773 p765.2)).bind fun p774 =>
    if eq32 p765.1 p774.1 then
      nx (v + 6) p774.2
    else
    retZ 0 p774.2
def lc_22 (n a c m : Nat) (nx : Int → Mem → Option (Int × Mem)) (v : Int) (μ : Mem) : Option (Int × Mem) :=
    (ldI μ 7 a (v + 1)).bind fun x787 =>
    (inv μ 11 c (mX10_severs n c x787 μ)).bind fun p788 =>
    (ldI p788.2 7 a (v + 1)).bind fun x796 =>
    (inv p788.2 12 m (mX11_severs n m x796 p788.2)).bind fun p797 =>
    if eq32 p788.1 p797.1 then
      nx (v + 6) p797.2
    else
    retZ 0 p797.2
def lc_23 (n a c m : Nat) (nx : Int → Mem → Option (Int × Mem)) (v : Int) (μ : Mem) : Option (Int × Mem) :=
    (ldI μ 7 a (v + 1)).bind fun x810 =>
    (ldI μ 7 a (v + 2)).bind fun x815 =>
    (inv μ 11 c (mX10_soonest n c x810 x815 μ)).bind fun p816 =>
    (ldI p816.2 7 a (v + 1)).bind fun x824 =>
    (ldI p816.2 7 a (v + 2)).bind fun x829 =>
    (inv p816.2 12 m (mX11_soonest n m x824 x829 p816.2)).bind fun p830 =>
    if eq32 p816.1 p830.1 then
      nx (v + 6) p830.2
    else
    retZ 0 p830.2
def lc_24 (n a c m : Nat) (nx : Int → Mem → Option (Int × Mem)) (v : Int) (μ : Mem) : Option (Int × Mem) :=
    (ldI μ 7 a (v + 1)).bind fun x843 =>
    (ldI μ 7 a (v + 2)).bind fun x848 =>
    (inv μ 11 c (mX10_loss n c x843 x848 μ)).bind fun p849 =>
    (ldI p849.2 7 a (v + 1)).bind fun x857 =>
    (ldI p849.2 7 a (v + 2)).bind fun x862 =>
    (inv p849.2 12 m (mX11_loss n m x857 x862 p849.2)).bind fun p863 =>
    if eq32 p849.1 p863.1 then
      nx (v + 6) p863.2
    else
    retZ 0 p863.2
def lc_25 (n a c m : Nat) (nx : Int → Mem → Option (Int × Mem)) (v : Int) (μ : Mem) : Option (Int × Mem) :=
    (ldI μ 7 a (v + 1)).bind fun x876 =>
    (ldI μ 7 a (v + 2)).bind fun x881 =>
    (inv μ 11 c (mX10_cheapest n c x876 x881 μ)).bind fun p882 =>
    (ldI p882.2 7 a (v + 1)).bind fun x890 =>
    (ldI p882.2 7 a (v + 2)).bind fun x895 =>
    (inv p882.2 12 m (mX11_cheapest n m x890 x895 p882.2)).bind fun p896 =>
    if eq32 p882.1 p896.1 then
      nx (v + 6) p896.2
    else
    retZ 0 p896.2
def lc_26 (n a c m : Nat) (nx : Int → Mem → Option (Int × Mem)) (v : Int) (μ : Mem) : Option (Int × Mem) :=
    (ldI μ 7 a (v + 1)).bind fun x909 =>
    (ldI μ 7 a (v + 2)).bind fun x914 =>
    (ldI μ 7 a (v + 3)).bind fun x919 =>
    (inv μ 11 c (mX10_alone n c x909 x914 x919 μ)).bind fun p920 =>
    (ldI p920.2 7 a (v + 1)).bind fun x928 =>
    (ldI p920.2 7 a (v + 2)).bind fun x933 =>
    (ldI p920.2 7 a (v + 3)).bind fun x938 =>
    (inv p920.2 12 m (mX11_alone n m x928 x933 x938 p920.2)).bind fun p939 =>
    if eq32 p920.1 p939.1 then
      nx (v + 6) p939.2
    else
    retZ 0 p939.2
def lc_27 (n a c m : Nat) (nx : Int → Mem → Option (Int × Mem)) (v : Int) (μ : Mem) : Option (Int × Mem) :=
    (ldI μ 7 a (v + 1)).bind fun x952 =>
    (inv μ 11 c (mX10_mate n c x952 μ)).bind fun p953 =>
    (ldI p953.2 7 a (v + 1)).bind fun x961 =>
    (inv p953.2 12 m (mX11_mate n m x961 p953.2)).bind fun p962 =>
    if eq32 p953.1 p962.1 then
      nx (v + 6) p962.2
    else
    retZ 0 p962.2
def lc_28 (n a c m : Nat) (nx : Int → Mem → Option (Int × Mem)) (v : Int) (μ : Mem) : Option (Int × Mem) :=
    (ldI μ 7 a (v + 1)).bind fun x975 =>
    (inv μ 11 c (mX10_dwellings n c x975 μ)).bind fun p976 =>
    (ldI p976.2 7 a (v + 1)).bind fun x984 =>
    (inv p976.2 12 m (mX11_dwellings n m x984 p976.2)).bind fun p985 =>
    if eq32 p976.1 p985.1 then
      nx (v + 6) p985.2
    else
    retZ 0 p985.2
def lc_29 (n a c m : Nat) (nx : Int → Mem → Option (Int × Mem)) (v : Int) (μ : Mem) : Option (Int × Mem) :=
    (ldI μ 7 a (v + 1)).bind fun x998 =>
    (inv μ 11 c (mX10_clash n c x998 μ)).bind fun p999 =>
    (ldI p999.2 7 a (v + 1)).bind fun x1007 =>
    (inv p999.2 12 m (mX11_clash n m x1007 p999.2)).bind fun p1008 =>
    if eq32 p999.1 p1008.1 then
      nx (v + 6) p1008.2
    else
    retZ 0 p1008.2
def lc_30 (n a c m : Nat) (nx : Int → Mem → Option (Int × Mem)) (v : Int) (μ : Mem) : Option (Int × Mem) :=
    (ldI μ 7 a (v + 1)).bind fun x1021 =>
    (inv μ 11 c (mX10_seen n c x1021 μ)).bind fun p1022 =>
    (ldI p1022.2 7 a (v + 1)).bind fun x1030 =>
    (inv p1022.2 12 m (mX11_seen n m x1030 p1022.2)).bind fun p1031 =>
    if eq32 p1022.1 p1031.1 then
      nx (v + 6) p1031.2
    else
    retZ 0 p1031.2
def lc_31 (n a c m : Nat) (nx : Int → Mem → Option (Int × Mem)) (v : Int) (μ : Mem) : Option (Int × Mem) :=
    (ldI μ 7 a (v + 1)).bind fun x1044 =>
    (inv μ 11 c (mX10_pulled n c x1044 μ)).bind fun p1045 =>
    (ldI p1045.2 7 a (v + 1)).bind fun x1053 =>
    (inv p1045.2 12 m (mX11_pulled n m x1053 p1045.2)).bind fun p1054 =>
    if eq32 p1045.1 p1054.1 then
      nx (v + 6) p1054.2
    else
    retZ 0 p1054.2
def lc_32 (n a c m : Nat) (nx : Int → Mem → Option (Int × Mem)) (v : Int) (μ : Mem) : Option (Int × Mem) :=
    (ldI μ 7 a (v + 1)).bind fun x1067 =>
    (ldI μ 7 a (v + 2)).bind fun x1072 =>
    (ldI μ 7 a (v + 3)).bind fun x1077 =>
    (inv μ 11 c (mX10_numbers n c x1067 x1072 x1077 μ)).bind fun p1078 =>
    (ldI p1078.2 7 a (v + 1)).bind fun x1086 =>
    (ldI p1078.2 7 a (v + 2)).bind fun x1091 =>
    (ldI p1078.2 7 a (v + 3)).bind fun x1096 =>
    (inv p1078.2 12 m (mX11_numbers n m x1086 x1091 x1096 p1078.2)).bind fun p1097 =>
    if eq32 p1078.1 p1097.1 then
      nx (v + 6) p1097.2
    else
    retZ 0 p1097.2
def lc_33 (n a c m : Nat) (nx : Int → Mem → Option (Int × Mem)) (v : Int) (μ : Mem) : Option (Int × Mem) :=
    (ldI μ 7 a (v + 1)).bind fun x1110 =>
    (ldI μ 7 a (v + 2)).bind fun x1115 =>
    (ldI μ 7 a (v + 3)).bind fun x1120 =>
    (ldI μ 7 a (v + 4)).bind fun x1129 =>
    (inv μ 11 c (mX10_write n c x1110 x1115 (lOr (lShl (oI2l x1120) 32) (lAnd (oI2l x1129) 4294967295)) μ)).bind fun p1136 =>
    (ldI p1136.2 7 a (v + 1)).bind fun x1144 =>
    (ldI p1136.2 7 a (v + 2)).bind fun x1149 =>
    (ldI p1136.2 7 a (v + 3)).bind fun x1154 =>
    (ldI p1136.2 7 a (v + 4)).bind fun x1163 =>
    (inv p1136.2 12 m (mX11_write n m x1144 x1149 (lOr (lShl (oI2l x1154) 32) (lAnd (oI2l x1163) 4294967295)) p1136.2)).bind fun p1170 =>
    if eq32 (oLcmp p1136.1 p1170.1) 0 then
      nx (v + 6) p1170.2
    else
    retZ 0 p1170.2
def lc_34 (n a c m : Nat) (nx : Int → Mem → Option (Int × Mem)) (v : Int) (μ : Mem) : Option (Int × Mem) :=
    (ldI μ 7 a (v + 1)).bind fun x1184 =>
    (inv μ 11 c (mX10_copy n c x1184 μ)).bind fun p1185 =>
    (ldI p1185.2 7 a (v + 1)).bind fun x1193 =>
    (inv p1185.2 12 m (mX11_copy n m x1193 p1185.2)).bind fun p1194 =>
    if eq32 p1185.1 p1194.1 then
      nx (v + 6) p1194.2
    else
    retZ 0 p1194.2
def lc_35 (n a c m : Nat) (nx : Int → Mem → Option (Int × Mem)) (v : Int) (μ : Mem) : Option (Int × Mem) :=
    (ldI μ 7 a (v + 1)).bind fun x1207 =>
    (inv μ 11 c (mX10_image n c x1207 μ)).bind fun p1208 =>
    (ldI p1208.2 7 a (v + 1)).bind fun x1216 =>
    (inv p1208.2 12 m (mX11_image n m x1216 p1208.2)).bind fun p1217 =>
    if eq32 p1208.1 p1217.1 then
      nx (v + 6) p1217.2
    else
    retZ 0 p1217.2
def lc_36 (n a c m : Nat) (nx : Int → Mem → Option (Int × Mem)) (v : Int) (μ : Mem) : Option (Int × Mem) :=
    (ldI μ 7 a (v + 1)).bind fun x1230 =>
    (inv μ 11 c (mX10_restore n c x1230 μ)).bind fun p1231 =>
    (ldI p1231.2 7 a (v + 1)).bind fun x1239 =>
    (inv p1231.2 12 m (mX11_restore n m x1239 p1231.2)).bind fun p1240 =>
    if eq32 p1231.1 p1240.1 then
      nx (v + 6) p1240.2
    else
    retZ 0 p1240.2
def lc_37 (n a c m : Nat) (nx : Int → Mem → Option (Int × Mem)) (v : Int) (μ : Mem) : Option (Int × Mem) :=
    (ldI μ 7 a (v + 1)).bind fun x1253 =>
    (inv μ 11 c (mX10_count n c x1253 μ)).bind fun p1254 =>
    (ldI p1254.2 7 a (v + 1)).bind fun x1262 =>
    (inv p1254.2 12 m (mX11_count n m x1262 p1254.2)).bind fun p1263 =>
    if eq32 p1254.1 p1263.1 then
      nx (v + 6) p1263.2
    else
    retZ 0 p1263.2
def lawB (n a c m : Nat) : (Int → Mem → Option (Int × Mem)) → Int → Mem → Option (Int × Mem) := fun nx v μ =>
  (alen μ 7 a).bind fun x20 =>
  if lt32 (x20 - 6) v then retZ 1 μ else
  (ldI μ 7 a v).bind fun x29 =>
  if eq32 (oAnd x29 63) 0 then lc_0 n a c m nx v μ else
  if eq32 (oAnd x29 63) 1 then lc_1 n a c m nx v μ else
  if eq32 (oAnd x29 63) 2 then lc_2 n a c m nx v μ else
  if eq32 (oAnd x29 63) 3 then lc_3 n a c m nx v μ else
  if eq32 (oAnd x29 63) 4 then lc_4 n a c m nx v μ else
  if eq32 (oAnd x29 63) 5 then lc_5 n a c m nx v μ else
  if eq32 (oAnd x29 63) 6 then lc_6 n a c m nx v μ else
  if eq32 (oAnd x29 63) 7 then lc_7 n a c m nx v μ else
  if eq32 (oAnd x29 63) 8 then lc_8 n a c m nx v μ else
  if eq32 (oAnd x29 63) 9 then lc_9 n a c m nx v μ else
  if eq32 (oAnd x29 63) 10 then lc_10 n a c m nx v μ else
  if eq32 (oAnd x29 63) 11 then lc_11 n a c m nx v μ else
  if eq32 (oAnd x29 63) 12 then lc_12 n a c m nx v μ else
  if eq32 (oAnd x29 63) 13 then lc_13 n a c m nx v μ else
  if eq32 (oAnd x29 63) 14 then lc_14 n a c m nx v μ else
  if eq32 (oAnd x29 63) 15 then lc_15 n a c m nx v μ else
  if eq32 (oAnd x29 63) 16 then lc_16 n a c m nx v μ else
  if eq32 (oAnd x29 63) 17 then lc_17 n a c m nx v μ else
  if eq32 (oAnd x29 63) 18 then lc_18 n a c m nx v μ else
  if eq32 (oAnd x29 63) 19 then lc_19 n a c m nx v μ else
  if eq32 (oAnd x29 63) 20 then lc_20 n a c m nx v μ else
  if eq32 (oAnd x29 63) 21 then lc_21 n a c m nx v μ else
  if eq32 (oAnd x29 63) 22 then lc_22 n a c m nx v μ else
  if eq32 (oAnd x29 63) 23 then lc_23 n a c m nx v μ else
  if eq32 (oAnd x29 63) 24 then lc_24 n a c m nx v μ else
  if eq32 (oAnd x29 63) 25 then lc_25 n a c m nx v μ else
  if eq32 (oAnd x29 63) 26 then lc_26 n a c m nx v μ else
  if eq32 (oAnd x29 63) 27 then lc_27 n a c m nx v μ else
  if eq32 (oAnd x29 63) 28 then lc_28 n a c m nx v μ else
  if eq32 (oAnd x29 63) 29 then lc_29 n a c m nx v μ else
  if eq32 (oAnd x29 63) 30 then lc_30 n a c m nx v μ else
  if eq32 (oAnd x29 63) 31 then lc_31 n a c m nx v μ else
  if eq32 (oAnd x29 63) 32 then lc_32 n a c m nx v μ else
  if eq32 (oAnd x29 63) 33 then lc_33 n a c m nx v μ else
  if eq32 (oAnd x29 63) 34 then lc_34 n a c m nx v μ else
  if eq32 (oAnd x29 63) 35 then lc_35 n a c m nx v μ else
  if eq32 (oAnd x29 63) 36 then lc_36 n a c m nx v μ else
  if eq32 (oAnd x29 63) 37 then lc_37 n a c m nx v μ else
  nx (v + 6) μ
set_option maxRecDepth 100000 in
set_option maxHeartbeats 4000000 in
theorem law_b (n a : Nat) (μ : Mem) : mL_law n a μ = (nwO μ 11 12).bind fun p0 => if p0.1 = 0 then none else (mX10_init n p0.1 p0.2).bind fun p4 => (nwO p4.2 12 44).bind fun p8 => if p8.1 = 0 then none else (mX11_init n p8.1 p8.2).bind fun p12 => lp (lawB n a p0.1 p8.1) n 0 (fixM p12.2) := rfl
theorem nwO_c {μ : Mem} {J : Nat → Nat → Int} {N k n : Nat} {s : Ce} (h : wfT s) : nwO (cMt μ J N s) k n = some (N + 1 + s.1.length, cMt μ J N (objT k n s)) := by
  show some (N + s.1.length + 1, nw (cM μ J N s.1 s.2.1 s.2.2) k n) = _
  rw [c_new h, show N + s.1.length + 1 = N + 1 + s.1.length by omega]
  rfl
theorem law_s {n a : Nat} (μ : Mem) (hn : 20000 ≤ n) : mL_law n a μ = lp (lawB n a (mN μ + 1) (mN μ + 1 + 193)) n 0 (sMm μ (mI μ) (mN μ)) := by
  rw [law_b]
  have e0 : cMt μ (mI μ) (mN μ) ([], [], []) = μ := c_nil rfl
  have w0 : wfT ([], [], []) := ⟨fun e he => (List.not_mem_nil he).elim, fun e he => (List.not_mem_nil he).elim⟩
  have r1 : nwO μ 11 12 = some (mN μ + 1 + 0, cMt μ (mI μ) (mN μ) k0T) := by
    have := nwO_c (μ := μ) (J := mI μ) (N := mN μ) (k := 11) (n := 12) w0
    rw [e0] at this
    exact this
  obtain ⟨c1, w3⟩ := class_e (μ := μ) (J := mI μ) (N := mN μ) hn
  rw [bnd r1]
  dsimp only
  rw [if_neg (by omega), bnd c1]
  dsimp only
  have r2 : nwO (cMt μ (mI μ) (mN μ) k3T) 12 44 = some (mN μ + 1 + 193, cMt μ (mI μ) (mN μ) m0T) := by
    have := nwO_c (μ := μ) (J := mI μ) (N := mN μ) (k := 12) (n := 44) w3
    rw [k3_len] at this
    exact this
  rw [bnd r2]
  dsimp only
  rw [if_neg (by omega), bnd (model_e hn w3)]
  rfl
