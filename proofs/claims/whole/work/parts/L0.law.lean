/-! the law: its function, and its walk -/
def mL_law (n : Nat) (a : Nat) (μ : Mem) : Option (Int × Mem) :=
  (nwO μ 11 12).bind fun p0 =>
  if p0.1 = 0 then none else (mX10_init n p0.1 p0.2).bind fun p4 =>
  (nwO p4.2 12 44).bind fun p8 =>
  if p8.1 = 0 then none else (mX11_init n p8.1 p8.2).bind fun p12 =>
  lp (fun nx18 (v18 : Int) (μ18 : Mem) =>
  (alen μ18 7 a).bind fun x20 =>
  if lt32 (x20 - 6) v18 then
    retZ 1 μ18
  else
  (ldI μ18 7 a v18).bind fun x29 =>
  if eq32 (oAnd x29 63) 0 then
    (ldI μ18 7 a (v18 + 1)).bind fun x205 =>
    (ldI μ18 7 a (v18 + 2)).bind fun x210 =>
    (ldI μ18 7 a (v18 + 3)).bind fun x215 =>
    (ldI μ18 7 a (v18 + 4)).bind fun x220 =>
    (ldI μ18 7 a (v18 + 5)).bind fun x225 =>
    (inv μ18 11 p0.1 (mX10_feed n p0.1 x205 x210 x215 x220 x225 μ18)).bind fun p226 =>
    (ldI p226.2 7 a (v18 + 1)).bind fun x234 =>
    (ldI p226.2 7 a (v18 + 2)).bind fun x239 =>
    (ldI p226.2 7 a (v18 + 3)).bind fun x244 =>
    (ldI p226.2 7 a (v18 + 4)).bind fun x249 =>
    (ldI p226.2 7 a (v18 + 5)).bind fun x254 =>
    (inv p226.2 12 p8.1 (mX11_feed n p8.1 x234 x239 x244 x249 x254 p226.2)).bind fun p255 =>
    if eq32 p226.1 p255.1 then
      nx18 (v18 + 6) p255.2
    else
    retZ 0 p255.2
  else
  if eq32 (oAnd x29 63) 1 then
    (ldI μ18 7 a (v18 + 1)).bind fun x268 =>
    (inv μ18 11 p0.1 (mX10_land n p0.1 x268 μ18)).bind fun p269 =>
    (ldI p269.2 7 a (v18 + 1)).bind fun x277 =>
    (inv p269.2 12 p8.1 (mX11_land n p8.1 x277 p269.2)).bind fun p278 =>
    if eq32 p269.1 p278.1 then
      nx18 (v18 + 6) p278.2
    else
    retZ 0 p278.2
  else
  if eq32 (oAnd x29 63) 2 then
    (ldI μ18 7 a (v18 + 1)).bind fun x291 =>
    (inv μ18 11 p0.1 (mX10_fault n p0.1 x291 μ18)).bind fun p292 =>
    (ldI p292.2 7 a (v18 + 1)).bind fun x300 =>
    (inv p292.2 12 p8.1 (mX11_fault n p8.1 x300 p292.2)).bind fun p301 =>
    if eq32 p292.1 p301.1 then
      nx18 (v18 + 6) p301.2
    else
    retZ 0 p301.2
  else
  if eq32 (oAnd x29 63) 3 then
    (ldI μ18 7 a (v18 + 1)).bind fun x314 =>
    (ldI μ18 7 a (v18 + 2)).bind fun x319 =>
    (inv μ18 11 p0.1 (mX10_house n p0.1 x314 x319 μ18)).bind fun p320 =>
    (ldI p320.2 7 a (v18 + 1)).bind fun x328 =>
    (ldI p320.2 7 a (v18 + 2)).bind fun x333 =>
    (inv p320.2 12 p8.1 (mX11_house n p8.1 x328 x333 p320.2)).bind fun p334 =>
    if eq32 p320.1 p334.1 then
      nx18 (v18 + 6) p334.2
    else
    retZ 0 p334.2
  else
  if eq32 (oAnd x29 63) 4 then
    (ldI μ18 7 a (v18 + 1)).bind fun x347 =>
    (ldI μ18 7 a (v18 + 2)).bind fun x352 =>
    (inv μ18 11 p0.1 (mX10_rope n p0.1 x347 x352 μ18)).bind fun p353 =>
    (ldI p353.2 7 a (v18 + 1)).bind fun x361 =>
    (ldI p353.2 7 a (v18 + 2)).bind fun x366 =>
    (inv p353.2 12 p8.1 (mX11_rope n p8.1 x361 x366 p353.2)).bind fun p367 =>
    if eq32 p353.1 p367.1 then
      nx18 (v18 + 6) p367.2
    else
    retZ 0 p367.2
  else
  if eq32 (oAnd x29 63) 5 then
    (inv μ18 11 p0.1 (mX10_pass n p0.1 μ18)).bind fun p376 =>
    (inv p376.2 12 p8.1 (mX11_pass n p8.1 p376.2)).bind fun p380 =>
    if eq32 p376.1 p380.1 then
      nx18 (v18 + 6) p380.2
    else
    retZ 0 p380.2
  else
  if eq32 (oAnd x29 63) 6 then
    (ldI μ18 7 a (v18 + 1)).bind fun x393 =>
    (ldI μ18 7 a (v18 + 2)).bind fun x398 =>
    (inv μ18 11 p0.1 (mX10_pull n p0.1 x393 x398 μ18)).bind fun p399 =>
    (ldI p399.2 7 a (v18 + 1)).bind fun x407 =>
    (ldI p399.2 7 a (v18 + 2)).bind fun x412 =>
    (inv p399.2 12 p8.1 (mX11_pull n p8.1 x407 x412 p399.2)).bind fun p413 =>
    if eq32 p399.1 p413.1 then
      nx18 (v18 + 6) p413.2
    else
    retZ 0 p413.2
  else
  if eq32 (oAnd x29 63) 7 then
    (ldI μ18 7 a (v18 + 1)).bind fun x426 =>
    (ldI μ18 7 a (v18 + 2)).bind fun x431 =>
    (inv μ18 11 p0.1 (mX10_judge n p0.1 x426 x431 μ18)).bind fun p432 =>
    (ldI p432.2 7 a (v18 + 1)).bind fun x440 =>
    (ldI p432.2 7 a (v18 + 2)).bind fun x445 =>
    (inv p432.2 12 p8.1 (mX11_judge n p8.1 x440 x445 p432.2)).bind fun p446 =>
    if eq32 p432.1 p446.1 then
      nx18 (v18 + 6) p446.2
    else
    retZ 0 p446.2
  else
  if eq32 (oAnd x29 63) 8 then
    (ldI μ18 7 a (v18 + 1)).bind fun x459 =>
    (inv μ18 11 p0.1 (mX10_perform n p0.1 x459 μ18)).bind fun p460 =>
    (ldI p460.2 7 a (v18 + 1)).bind fun x468 =>
    (inv p460.2 12 p8.1 (mX11_perform n p8.1 x468 p460.2)).bind fun p469 =>
    if eq32 p460.1 p469.1 then
      nx18 (v18 + 6) p469.2
    else
    retZ 0 p469.2
  else
  if eq32 (oAnd x29 63) 9 then
    (ldI μ18 7 a (v18 + 1)).bind fun x482 =>
    (ldI μ18 7 a (v18 + 2)).bind fun x487 =>
    (inv μ18 11 p0.1 (mX10_custom n p0.1 x482 x487 μ18)).bind fun p488 =>
    (ldI p488.2 7 a (v18 + 1)).bind fun x496 =>
    (ldI p488.2 7 a (v18 + 2)).bind fun x501 =>
    (inv p488.2 12 p8.1 (mX11_custom n p8.1 x496 x501 p488.2)).bind fun p502 =>
    if eq32 p488.1 p502.1 then
      nx18 (v18 + 6) p502.2
    else
    retZ 0 p502.2
  else
  if eq32 (oAnd x29 63) 10 then
    (ldI μ18 7 a (v18 + 1)).bind fun x515 =>
    (inv μ18 11 p0.1 (mX10_live n p0.1 x515 μ18)).bind fun p516 =>
    (ldI p516.2 7 a (v18 + 1)).bind fun x524 =>
    (inv p516.2 12 p8.1 (mX11_live n p8.1 x524 p516.2)).bind fun p525 =>
    if eq32 p516.1 p525.1 then
      nx18 (v18 + 6) p525.2
    else
    retZ 0 p525.2
  else
  if eq32 (oAnd x29 63) 11 then
    (ldI μ18 7 a (v18 + 1)).bind fun x538 =>
    (ldI μ18 7 a (v18 + 2)).bind fun x543 =>
    (inv μ18 11 p0.1 (mX10_drought n p0.1 x538 x543 μ18)).bind fun p544 =>
    (ldI p544.2 7 a (v18 + 1)).bind fun x552 =>
    (ldI p544.2 7 a (v18 + 2)).bind fun x557 =>
    (inv p544.2 12 p8.1 (mX11_drought n p8.1 x552 x557 p544.2)).bind fun p558 =>
    if eq32 p544.1 p558.1 then
      nx18 (v18 + 6) p558.2
    else
    retZ 0 p558.2
  else
  if eq32 (oAnd x29 63) 12 then
    (ldI μ18 7 a (v18 + 1)).bind fun x571 =>
    (inv μ18 11 p0.1 (mX10_cut n p0.1 x571 μ18)).bind fun p572 =>
    (ldI p572.2 7 a (v18 + 1)).bind fun x580 =>
    (inv p572.2 12 p8.1 (mX11_cut n p8.1 x580 p572.2)).bind fun p581 =>
    if eq32 p572.1 p581.1 then
      nx18 (v18 + 6) p581.2
    else
    retZ 0 p581.2
  else
  if eq32 (oAnd x29 63) 13 then
    (ldI μ18 7 a (v18 + 1)).bind fun x594 =>
    (ldI μ18 7 a (v18 + 2)).bind fun x599 =>
    jn (fun (v608 : Int) (μ608 : Mem) =>
    (ldI μ608 7 a (v18 + 3)).bind fun x612 =>
    (inv μ608 11 p0.1 (mX10_stones n p0.1 x594 v608 x612 μ608)).bind fun p613 =>
    (ldI p613.2 7 a (v18 + 1)).bind fun x621 =>
    (ldI p613.2 7 a (v18 + 2)).bind fun x626 =>
    jn (fun (v635 : Int) (μ635 : Mem) =>
    (ldI μ635 7 a (v18 + 3)).bind fun x639 =>
    (inv μ635 12 p8.1 (mX11_stones n p8.1 x621 v635 x639 μ635)).bind fun p640 =>
    if eq32 p613.1 p640.1 then
      nx18 (v18 + 6) p640.2
    else
    retZ 0 p640.2) (fun j635 =>
    if eq32 x626 0 then
      j635 0 p613.2
    else
    j635 1 p613.2)) (fun j608 =>
    if eq32 x599 0 then
      j608 0 μ18
    else
    j608 1 μ18)
  else
  if eq32 (oAnd x29 63) 14 then
    (inv μ18 11 p0.1 (mX10_rests n p0.1 μ18)).bind fun p649 =>
    (inv p649.2 12 p8.1 (mX11_rests n p8.1 p649.2)).bind fun p653 =>
    if eq32 p649.1 p653.1 then
      nx18 (v18 + 6) p653.2
    else
    retZ 0 p653.2
  else
  if eq32 (oAnd x29 63) 15 then
    (inv μ18 11 p0.1 (mX10_calm n p0.1 μ18)).bind fun p662 =>
    (inv p662.2 12 p8.1 (mX11_calm n p8.1 p662.2)).bind fun p666 =>
    if eq32 p662.1 p666.1 then
      nx18 (v18 + 6) p666.2
    else
    retZ 0 p666.2
  else
  if eq32 (oAnd x29 63) 16 then
    (inv μ18 11 p0.1 (mX10_even n p0.1 μ18)).bind fun p675 =>
    (inv p675.2 12 p8.1 (mX11_even n p8.1 p675.2)).bind fun p679 =>
    if eq32 p675.1 p679.1 then
      nx18 (v18 + 6) p679.2
    else
    retZ 0 p679.2
  else
  if eq32 (oAnd x29 63) 17 then
    (ldI μ18 7 a (v18 + 1)).bind fun x692 =>
    (ldI μ18 7 a (v18 + 2)).bind fun x697 =>
    (inv μ18 11 p0.1 (mX10_lifts n p0.1 x692 x697 μ18)).bind fun p698 =>
    (ldI p698.2 7 a (v18 + 1)).bind fun x706 =>
    (ldI p698.2 7 a (v18 + 2)).bind fun x711 =>
    (inv p698.2 12 p8.1 (mX11_lifts n p8.1 x706 x711 p698.2)).bind fun p712 =>
    if eq32 p698.1 p712.1 then
      nx18 (v18 + 6) p712.2
    else
    retZ 0 p712.2
  else
  if eq32 (oAnd x29 63) 18 then
    (inv μ18 11 p0.1 (mX10_together n p0.1 μ18)).bind fun p721 =>
    (inv p721.2 12 p8.1 (mX11_together n p8.1 p721.2)).bind fun p725 =>
    if eq32 p721.1 p725.1 then
      nx18 (v18 + 6) p725.2
    else
    retZ 0 p725.2
  else
  if eq32 (oAnd x29 63) 19 then
    (inv μ18 11 p0.1 (mX10_parted n p0.1 μ18)).bind fun p734 =>
    (inv p734.2 12 p8.1 (mX11_parted n p8.1 p734.2)).bind fun p738 =>
    if eq32 p734.1 p738.1 then
      nx18 (v18 + 6) p738.2
    else
    retZ 0 p738.2
  else
  if eq32 (oAnd x29 63) 20 then
    (inv μ18 11 p0.1 (mX10_ring n p0.1 μ18)).bind fun p747 =>
    (inv p747.2 12 p8.1 (mX11_ring n p8.1 p747.2)).bind fun p751 =>
    if eq32 p747.1 p751.1 then
      nx18 (v18 + 6) p751.2
    else
    retZ 0 p751.2
  else
  if eq32 (oAnd x29 63) 21 then
    (ldI μ18 7 a (v18 + 1)).bind fun x764 =>
    (inv μ18 11 p0.1 (mX10_neighbours n p0.1 x764 μ18)).bind fun p765 =>
    (ldI p765.2 7 a (v18 + 1)).bind fun x773 =>
    (inv p765.2 12 p8.1 (mX11_neighbours n p8.1 x773 p765.2)).bind fun p774 =>
    if eq32 p765.1 p774.1 then
      nx18 (v18 + 6) p774.2
    else
    retZ 0 p774.2
  else
  if eq32 (oAnd x29 63) 22 then
    (ldI μ18 7 a (v18 + 1)).bind fun x787 =>
    (inv μ18 11 p0.1 (mX10_severs n p0.1 x787 μ18)).bind fun p788 =>
    (ldI p788.2 7 a (v18 + 1)).bind fun x796 =>
    (inv p788.2 12 p8.1 (mX11_severs n p8.1 x796 p788.2)).bind fun p797 =>
    if eq32 p788.1 p797.1 then
      nx18 (v18 + 6) p797.2
    else
    retZ 0 p797.2
  else
  if eq32 (oAnd x29 63) 23 then
    (ldI μ18 7 a (v18 + 1)).bind fun x810 =>
    (ldI μ18 7 a (v18 + 2)).bind fun x815 =>
    (inv μ18 11 p0.1 (mX10_soonest n p0.1 x810 x815 μ18)).bind fun p816 =>
    (ldI p816.2 7 a (v18 + 1)).bind fun x824 =>
    (ldI p816.2 7 a (v18 + 2)).bind fun x829 =>
    (inv p816.2 12 p8.1 (mX11_soonest n p8.1 x824 x829 p816.2)).bind fun p830 =>
    if eq32 p816.1 p830.1 then
      nx18 (v18 + 6) p830.2
    else
    retZ 0 p830.2
  else
  if eq32 (oAnd x29 63) 24 then
    (ldI μ18 7 a (v18 + 1)).bind fun x843 =>
    (ldI μ18 7 a (v18 + 2)).bind fun x848 =>
    (inv μ18 11 p0.1 (mX10_loss n p0.1 x843 x848 μ18)).bind fun p849 =>
    (ldI p849.2 7 a (v18 + 1)).bind fun x857 =>
    (ldI p849.2 7 a (v18 + 2)).bind fun x862 =>
    (inv p849.2 12 p8.1 (mX11_loss n p8.1 x857 x862 p849.2)).bind fun p863 =>
    if eq32 p849.1 p863.1 then
      nx18 (v18 + 6) p863.2
    else
    retZ 0 p863.2
  else
  if eq32 (oAnd x29 63) 25 then
    (ldI μ18 7 a (v18 + 1)).bind fun x876 =>
    (ldI μ18 7 a (v18 + 2)).bind fun x881 =>
    (inv μ18 11 p0.1 (mX10_cheapest n p0.1 x876 x881 μ18)).bind fun p882 =>
    (ldI p882.2 7 a (v18 + 1)).bind fun x890 =>
    (ldI p882.2 7 a (v18 + 2)).bind fun x895 =>
    (inv p882.2 12 p8.1 (mX11_cheapest n p8.1 x890 x895 p882.2)).bind fun p896 =>
    if eq32 p882.1 p896.1 then
      nx18 (v18 + 6) p896.2
    else
    retZ 0 p896.2
  else
  if eq32 (oAnd x29 63) 26 then
    (ldI μ18 7 a (v18 + 1)).bind fun x909 =>
    (ldI μ18 7 a (v18 + 2)).bind fun x914 =>
    (ldI μ18 7 a (v18 + 3)).bind fun x919 =>
    (inv μ18 11 p0.1 (mX10_alone n p0.1 x909 x914 x919 μ18)).bind fun p920 =>
    (ldI p920.2 7 a (v18 + 1)).bind fun x928 =>
    (ldI p920.2 7 a (v18 + 2)).bind fun x933 =>
    (ldI p920.2 7 a (v18 + 3)).bind fun x938 =>
    (inv p920.2 12 p8.1 (mX11_alone n p8.1 x928 x933 x938 p920.2)).bind fun p939 =>
    if eq32 p920.1 p939.1 then
      nx18 (v18 + 6) p939.2
    else
    retZ 0 p939.2
  else
  if eq32 (oAnd x29 63) 27 then
    (ldI μ18 7 a (v18 + 1)).bind fun x952 =>
    (inv μ18 11 p0.1 (mX10_mate n p0.1 x952 μ18)).bind fun p953 =>
    (ldI p953.2 7 a (v18 + 1)).bind fun x961 =>
    (inv p953.2 12 p8.1 (mX11_mate n p8.1 x961 p953.2)).bind fun p962 =>
    if eq32 p953.1 p962.1 then
      nx18 (v18 + 6) p962.2
    else
    retZ 0 p962.2
  else
  if eq32 (oAnd x29 63) 28 then
    (ldI μ18 7 a (v18 + 1)).bind fun x975 =>
    (inv μ18 11 p0.1 (mX10_dwellings n p0.1 x975 μ18)).bind fun p976 =>
    (ldI p976.2 7 a (v18 + 1)).bind fun x984 =>
    (inv p976.2 12 p8.1 (mX11_dwellings n p8.1 x984 p976.2)).bind fun p985 =>
    if eq32 p976.1 p985.1 then
      nx18 (v18 + 6) p985.2
    else
    retZ 0 p985.2
  else
  if eq32 (oAnd x29 63) 29 then
    (ldI μ18 7 a (v18 + 1)).bind fun x998 =>
    (inv μ18 11 p0.1 (mX10_clash n p0.1 x998 μ18)).bind fun p999 =>
    (ldI p999.2 7 a (v18 + 1)).bind fun x1007 =>
    (inv p999.2 12 p8.1 (mX11_clash n p8.1 x1007 p999.2)).bind fun p1008 =>
    if eq32 p999.1 p1008.1 then
      nx18 (v18 + 6) p1008.2
    else
    retZ 0 p1008.2
  else
  if eq32 (oAnd x29 63) 30 then
    (ldI μ18 7 a (v18 + 1)).bind fun x1021 =>
    (inv μ18 11 p0.1 (mX10_seen n p0.1 x1021 μ18)).bind fun p1022 =>
    (ldI p1022.2 7 a (v18 + 1)).bind fun x1030 =>
    (inv p1022.2 12 p8.1 (mX11_seen n p8.1 x1030 p1022.2)).bind fun p1031 =>
    if eq32 p1022.1 p1031.1 then
      nx18 (v18 + 6) p1031.2
    else
    retZ 0 p1031.2
  else
  if eq32 (oAnd x29 63) 31 then
    (ldI μ18 7 a (v18 + 1)).bind fun x1044 =>
    (inv μ18 11 p0.1 (mX10_pulled n p0.1 x1044 μ18)).bind fun p1045 =>
    (ldI p1045.2 7 a (v18 + 1)).bind fun x1053 =>
    (inv p1045.2 12 p8.1 (mX11_pulled n p8.1 x1053 p1045.2)).bind fun p1054 =>
    if eq32 p1045.1 p1054.1 then
      nx18 (v18 + 6) p1054.2
    else
    retZ 0 p1054.2
  else
  if eq32 (oAnd x29 63) 32 then
    (ldI μ18 7 a (v18 + 1)).bind fun x1067 =>
    (ldI μ18 7 a (v18 + 2)).bind fun x1072 =>
    (ldI μ18 7 a (v18 + 3)).bind fun x1077 =>
    (inv μ18 11 p0.1 (mX10_numbers n p0.1 x1067 x1072 x1077 μ18)).bind fun p1078 =>
    (ldI p1078.2 7 a (v18 + 1)).bind fun x1086 =>
    (ldI p1078.2 7 a (v18 + 2)).bind fun x1091 =>
    (ldI p1078.2 7 a (v18 + 3)).bind fun x1096 =>
    (inv p1078.2 12 p8.1 (mX11_numbers n p8.1 x1086 x1091 x1096 p1078.2)).bind fun p1097 =>
    if eq32 p1078.1 p1097.1 then
      nx18 (v18 + 6) p1097.2
    else
    retZ 0 p1097.2
  else
  if eq32 (oAnd x29 63) 33 then
    (ldI μ18 7 a (v18 + 1)).bind fun x1110 =>
    (ldI μ18 7 a (v18 + 2)).bind fun x1115 =>
    (ldI μ18 7 a (v18 + 3)).bind fun x1120 =>
    (ldI μ18 7 a (v18 + 4)).bind fun x1129 =>
    (inv μ18 11 p0.1 (mX10_write n p0.1 x1110 x1115 (lOr (lShl (oI2l x1120) 32) (lAnd (oI2l x1129) 4294967295)) μ18)).bind fun p1136 =>
    (ldI p1136.2 7 a (v18 + 1)).bind fun x1144 =>
    (ldI p1136.2 7 a (v18 + 2)).bind fun x1149 =>
    (ldI p1136.2 7 a (v18 + 3)).bind fun x1154 =>
    (ldI p1136.2 7 a (v18 + 4)).bind fun x1163 =>
    (inv p1136.2 12 p8.1 (mX11_write n p8.1 x1144 x1149 (lOr (lShl (oI2l x1154) 32) (lAnd (oI2l x1163) 4294967295)) p1136.2)).bind fun p1170 =>
    if eq32 (oLcmp p1136.1 p1170.1) 0 then
      nx18 (v18 + 6) p1170.2
    else
    retZ 0 p1170.2
  else
  if eq32 (oAnd x29 63) 34 then
    (ldI μ18 7 a (v18 + 1)).bind fun x1184 =>
    (inv μ18 11 p0.1 (mX10_copy n p0.1 x1184 μ18)).bind fun p1185 =>
    (ldI p1185.2 7 a (v18 + 1)).bind fun x1193 =>
    (inv p1185.2 12 p8.1 (mX11_copy n p8.1 x1193 p1185.2)).bind fun p1194 =>
    if eq32 p1185.1 p1194.1 then
      nx18 (v18 + 6) p1194.2
    else
    retZ 0 p1194.2
  else
  if eq32 (oAnd x29 63) 35 then
    (ldI μ18 7 a (v18 + 1)).bind fun x1207 =>
    (inv μ18 11 p0.1 (mX10_image n p0.1 x1207 μ18)).bind fun p1208 =>
    (ldI p1208.2 7 a (v18 + 1)).bind fun x1216 =>
    (inv p1208.2 12 p8.1 (mX11_image n p8.1 x1216 p1208.2)).bind fun p1217 =>
    if eq32 p1208.1 p1217.1 then
      nx18 (v18 + 6) p1217.2
    else
    retZ 0 p1217.2
  else
  if eq32 (oAnd x29 63) 36 then
    (ldI μ18 7 a (v18 + 1)).bind fun x1230 =>
    (inv μ18 11 p0.1 (mX10_restore n p0.1 x1230 μ18)).bind fun p1231 =>
    (ldI p1231.2 7 a (v18 + 1)).bind fun x1239 =>
    (inv p1231.2 12 p8.1 (mX11_restore n p8.1 x1239 p1231.2)).bind fun p1240 =>
    if eq32 p1231.1 p1240.1 then
      nx18 (v18 + 6) p1240.2
    else
    retZ 0 p1240.2
  else
  if eq32 (oAnd x29 63) 37 then
    (ldI μ18 7 a (v18 + 1)).bind fun x1253 =>
    (inv μ18 11 p0.1 (mX10_count n p0.1 x1253 μ18)).bind fun p1254 =>
    (ldI p1254.2 7 a (v18 + 1)).bind fun x1262 =>
    (inv p1254.2 12 p8.1 (mX11_count n p8.1 x1262 p1254.2)).bind fun p1263 =>
    if eq32 p1254.1 p1263.1 then
      nx18 (v18 + 6) p1263.2
    else
    retZ 0 p1263.2
  else
  nx18 (v18 + 6) μ18) n 0 (fixM p12.2)
set_option maxRecDepth 100000 in
set_option maxHeartbeats 8000000 in
theorem sL_law (n a : Nat) (μ : Mem) (nm : String) (X : Ctx) (Γ : Gm) : Sn X Γ code ⟨"TwoWellsLaw", nm, "([I)Z"⟩ 4 (some .boolean) 63 1656 (mN μ) (mW μ) (Zm X Γ (mN μ) (mW μ) eI) 0 [some (aA a), none, none, none] [] μ (mL_law n a μ) := by
  unfold mL_law
  refine sn_new (ci := 10) dL_law_0 rfl cl_L_7 is_10 in_X10 (fun p0 => ?_)
  refine sn_dup dL_law_3 rfl ?_
  refine sn_callI (vs := []) (cX10_init_ok n p0.1 p0.2) dL_law_4 cw_L_9 rfl rfl (by decide) (by decide) (Nat.le_of_ble_eq_true rfl) (fun p4 => ?_)
  refine sn_astore_n (L' := [some (aA a), some (aA p0.1), none, none]) dL_law_7 (by decide) rfl ?_
  refine sn_new (ci := 11) dL_law_8 rfl cl_L_10 is_11 in_X11 (fun p8 => ?_)
  refine sn_dup dL_law_11 rfl ?_
  refine sn_callI (vs := []) (cX11_init_ok n p8.1 p8.2) dL_law_12 cw_L_12 rfl rfl (by decide) (by decide) (Nat.le_of_ble_eq_true rfl) (fun p12 => ?_)
  refine sn_astore_n (L' := [some (aA a), some (aA p0.1), some (aA p8.1), none]) dL_law_15 (by decide) rfl ?_
  refine sn_iconst dL_law_16 ?_
  refine sn_istore_n (L' := [some (aA a), some (aA p0.1), some (aA p8.1), some (aI 0)]) dL_law_17 (by decide) rfl ?_
  refine sn_fix ?_
  refine sn_lp (La := fun v18 : Int => [some (aA a), some (aA p0.1), some (aA p8.1), some (aI v18)]) ?_ n 0 (fixM p12.2)
  intro nx18 hnx18 v18 μ18
  refine sn_iload_n dL_law_18 rfl ?_
  refine sn_aload_n dL_law_19 rfl ?_
  refine sn_slen dL_law_20 (fun x20 => ?_)
  refine sn_bipush dL_law_21 (by decide) ?_
  refine sn_isub dL_law_23 ?_
  refine sn_icmp_gt (tgt := 1277) dL_law_24 (by decide) ?_ ?_
  · refine sn_iconst dL_law_1277 ?_
    exact sn_zret dL_law_1278
  · refine sn_aload_n dL_law_27 rfl ?_
    refine sn_iload_n dL_law_28 rfl ?_
    refine sn_sald dL_law_29 (fun x29 => ?_)
    refine sn_bipush dL_law_30 (by decide) ?_
    refine sn_iand dL_law_32 ?_
    refine sn_ite (fun c33_0 => ?_) (fun c33_0 => ?_)
    · refine sn_swIn (k := 0) (off := 167) (tgt := 200) dL_law_33 c33_0 (by decide) (by decide) rfl (by decide) ?_
      refine sn_aload_n dL_law_200 rfl ?_
      refine sn_aload_n dL_law_201 rfl ?_
      refine sn_iload_n dL_law_202 rfl ?_
      refine sn_iconst dL_law_203 ?_
      refine sn_iadd dL_law_204 ?_
      refine sn_sald dL_law_205 (fun x205 => ?_)
      refine sn_aload_n dL_law_206 rfl ?_
      refine sn_iload_n dL_law_207 rfl ?_
      refine sn_iconst dL_law_208 ?_
      refine sn_iadd dL_law_209 ?_
      refine sn_sald dL_law_210 (fun x210 => ?_)
      refine sn_aload_n dL_law_211 rfl ?_
      refine sn_iload_n dL_law_212 rfl ?_
      refine sn_iconst dL_law_213 ?_
      refine sn_iadd dL_law_214 ?_
      refine sn_sald dL_law_215 (fun x215 => ?_)
      refine sn_aload_n dL_law_216 rfl ?_
      refine sn_iload_n dL_law_217 rfl ?_
      refine sn_iconst dL_law_218 ?_
      refine sn_iadd dL_law_219 ?_
      refine sn_sald dL_law_220 (fun x220 => ?_)
      refine sn_aload_n dL_law_221 rfl ?_
      refine sn_iload_n dL_law_222 rfl ?_
      refine sn_iconst dL_law_223 ?_
      refine sn_iadd dL_law_224 ?_
      refine sn_sald dL_law_225 (fun x225 => ?_)
      refine sn_callVI (vs := [aI x205, aI x210, aI x215, aI x220, aI x225]) (ci := 10) (cX10_feed_ok n p0.1 x205 x210 x215 x220 x225 μ18) dL_law_226 cw_L_13 rfl rfl rfl (by decide) (by decide) (Nat.le_of_ble_eq_true rfl) (fun p226 => ?_)
      refine sn_aload_n dL_law_229 rfl ?_
      refine sn_aload_n dL_law_230 rfl ?_
      refine sn_iload_n dL_law_231 rfl ?_
      refine sn_iconst dL_law_232 ?_
      refine sn_iadd dL_law_233 ?_
      refine sn_sald dL_law_234 (fun x234 => ?_)
      refine sn_aload_n dL_law_235 rfl ?_
      refine sn_iload_n dL_law_236 rfl ?_
      refine sn_iconst dL_law_237 ?_
      refine sn_iadd dL_law_238 ?_
      refine sn_sald dL_law_239 (fun x239 => ?_)
      refine sn_aload_n dL_law_240 rfl ?_
      refine sn_iload_n dL_law_241 rfl ?_
      refine sn_iconst dL_law_242 ?_
      refine sn_iadd dL_law_243 ?_
      refine sn_sald dL_law_244 (fun x244 => ?_)
      refine sn_aload_n dL_law_245 rfl ?_
      refine sn_iload_n dL_law_246 rfl ?_
      refine sn_iconst dL_law_247 ?_
      refine sn_iadd dL_law_248 ?_
      refine sn_sald dL_law_249 (fun x249 => ?_)
      refine sn_aload_n dL_law_250 rfl ?_
      refine sn_iload_n dL_law_251 rfl ?_
      refine sn_iconst dL_law_252 ?_
      refine sn_iadd dL_law_253 ?_
      refine sn_sald dL_law_254 (fun x254 => ?_)
      refine sn_callVI (vs := [aI x234, aI x239, aI x244, aI x249, aI x254]) (ci := 11) (cX11_feed_ok n p8.1 x234 x239 x244 x249 x254 p226.2) dL_law_255 cw_L_17 rfl rfl rfl (by decide) (by decide) (Nat.le_of_ble_eq_true rfl) (fun p255 => ?_)
      refine sn_icmp_eq (tgt := 1271) dL_law_258 (by decide) ?_ ?_
      · refine sn_iinc (L' := [some (aA a), some (aA p0.1), some (aA p8.1), some (aI (v18 + 6))]) dL_law_1271 rfl (by decide) rfl ?_
        refine sn_goto (tgt := 18) dL_law_1274 (by decide) ?_
        exact hnx18 (v18 + 6) p255.2
      · refine sn_iconst dL_law_261 ?_
        exact sn_zret dL_law_262
    refine sn_ite (fun c33_1 => ?_) (fun c33_1 => ?_)
    · refine sn_swIn (k := 1) (off := 230) (tgt := 263) dL_law_33 c33_1 (by decide) (by decide) rfl (by decide) ?_
      refine sn_aload_n dL_law_263 rfl ?_
      refine sn_aload_n dL_law_264 rfl ?_
      refine sn_iload_n dL_law_265 rfl ?_
      refine sn_iconst dL_law_266 ?_
      refine sn_iadd dL_law_267 ?_
      refine sn_sald dL_law_268 (fun x268 => ?_)
      refine sn_callVI (vs := [aI x268]) (ci := 10) (cX10_land_ok n p0.1 x268 μ18) dL_law_269 cw_L_18 rfl rfl rfl (by decide) (by decide) (Nat.le_of_ble_eq_true rfl) (fun p269 => ?_)
      refine sn_aload_n dL_law_272 rfl ?_
      refine sn_aload_n dL_law_273 rfl ?_
      refine sn_iload_n dL_law_274 rfl ?_
      refine sn_iconst dL_law_275 ?_
      refine sn_iadd dL_law_276 ?_
      refine sn_sald dL_law_277 (fun x277 => ?_)
      refine sn_callVI (vs := [aI x277]) (ci := 11) (cX11_land_ok n p8.1 x277 p269.2) dL_law_278 cw_L_22 rfl rfl rfl (by decide) (by decide) (Nat.le_of_ble_eq_true rfl) (fun p278 => ?_)
      refine sn_icmp_eq (tgt := 1271) dL_law_281 (by decide) ?_ ?_
      · refine sn_iinc (L' := [some (aA a), some (aA p0.1), some (aA p8.1), some (aI (v18 + 6))]) dL_law_1271 rfl (by decide) rfl ?_
        refine sn_goto (tgt := 18) dL_law_1274 (by decide) ?_
        exact hnx18 (v18 + 6) p278.2
      · refine sn_iconst dL_law_284 ?_
        exact sn_zret dL_law_285
    refine sn_ite (fun c33_2 => ?_) (fun c33_2 => ?_)
    · refine sn_swIn (k := 2) (off := 253) (tgt := 286) dL_law_33 c33_2 (by decide) (by decide) rfl (by decide) ?_
      refine sn_aload_n dL_law_286 rfl ?_
      refine sn_aload_n dL_law_287 rfl ?_
      refine sn_iload_n dL_law_288 rfl ?_
      refine sn_iconst dL_law_289 ?_
      refine sn_iadd dL_law_290 ?_
      refine sn_sald dL_law_291 (fun x291 => ?_)
      refine sn_callVI (vs := [aI x291]) (ci := 10) (cX10_fault_ok n p0.1 x291 μ18) dL_law_292 cw_L_23 rfl rfl rfl (by decide) (by decide) (Nat.le_of_ble_eq_true rfl) (fun p292 => ?_)
      refine sn_aload_n dL_law_295 rfl ?_
      refine sn_aload_n dL_law_296 rfl ?_
      refine sn_iload_n dL_law_297 rfl ?_
      refine sn_iconst dL_law_298 ?_
      refine sn_iadd dL_law_299 ?_
      refine sn_sald dL_law_300 (fun x300 => ?_)
      refine sn_callVI (vs := [aI x300]) (ci := 11) (cX11_fault_ok n p8.1 x300 p292.2) dL_law_301 cw_L_26 rfl rfl rfl (by decide) (by decide) (Nat.le_of_ble_eq_true rfl) (fun p301 => ?_)
      refine sn_icmp_eq (tgt := 1271) dL_law_304 (by decide) ?_ ?_
      · refine sn_iinc (L' := [some (aA a), some (aA p0.1), some (aA p8.1), some (aI (v18 + 6))]) dL_law_1271 rfl (by decide) rfl ?_
        refine sn_goto (tgt := 18) dL_law_1274 (by decide) ?_
        exact hnx18 (v18 + 6) p301.2
      · refine sn_iconst dL_law_307 ?_
        exact sn_zret dL_law_308
    refine sn_ite (fun c33_3 => ?_) (fun c33_3 => ?_)
    · refine sn_swIn (k := 3) (off := 276) (tgt := 309) dL_law_33 c33_3 (by decide) (by decide) rfl (by decide) ?_
      refine sn_aload_n dL_law_309 rfl ?_
      refine sn_aload_n dL_law_310 rfl ?_
      refine sn_iload_n dL_law_311 rfl ?_
      refine sn_iconst dL_law_312 ?_
      refine sn_iadd dL_law_313 ?_
      refine sn_sald dL_law_314 (fun x314 => ?_)
      refine sn_aload_n dL_law_315 rfl ?_
      refine sn_iload_n dL_law_316 rfl ?_
      refine sn_iconst dL_law_317 ?_
      refine sn_iadd dL_law_318 ?_
      refine sn_sald dL_law_319 (fun x319 => ?_)
      refine sn_callVI (vs := [aI x314, aI x319]) (ci := 10) (cX10_house_ok n p0.1 x314 x319 μ18) dL_law_320 cw_L_27 rfl rfl rfl (by decide) (by decide) (Nat.le_of_ble_eq_true rfl) (fun p320 => ?_)
      refine sn_aload_n dL_law_323 rfl ?_
      refine sn_aload_n dL_law_324 rfl ?_
      refine sn_iload_n dL_law_325 rfl ?_
      refine sn_iconst dL_law_326 ?_
      refine sn_iadd dL_law_327 ?_
      refine sn_sald dL_law_328 (fun x328 => ?_)
      refine sn_aload_n dL_law_329 rfl ?_
      refine sn_iload_n dL_law_330 rfl ?_
      refine sn_iconst dL_law_331 ?_
      refine sn_iadd dL_law_332 ?_
      refine sn_sald dL_law_333 (fun x333 => ?_)
      refine sn_callVI (vs := [aI x328, aI x333]) (ci := 11) (cX11_house_ok n p8.1 x328 x333 p320.2) dL_law_334 cw_L_31 rfl rfl rfl (by decide) (by decide) (Nat.le_of_ble_eq_true rfl) (fun p334 => ?_)
      refine sn_icmp_eq (tgt := 1271) dL_law_337 (by decide) ?_ ?_
      · refine sn_iinc (L' := [some (aA a), some (aA p0.1), some (aA p8.1), some (aI (v18 + 6))]) dL_law_1271 rfl (by decide) rfl ?_
        refine sn_goto (tgt := 18) dL_law_1274 (by decide) ?_
        exact hnx18 (v18 + 6) p334.2
      · refine sn_iconst dL_law_340 ?_
        exact sn_zret dL_law_341
    refine sn_ite (fun c33_4 => ?_) (fun c33_4 => ?_)
    · refine sn_swIn (k := 4) (off := 309) (tgt := 342) dL_law_33 c33_4 (by decide) (by decide) rfl (by decide) ?_
      refine sn_aload_n dL_law_342 rfl ?_
      refine sn_aload_n dL_law_343 rfl ?_
      refine sn_iload_n dL_law_344 rfl ?_
      refine sn_iconst dL_law_345 ?_
      refine sn_iadd dL_law_346 ?_
      refine sn_sald dL_law_347 (fun x347 => ?_)
      refine sn_aload_n dL_law_348 rfl ?_
      refine sn_iload_n dL_law_349 rfl ?_
      refine sn_iconst dL_law_350 ?_
      refine sn_iadd dL_law_351 ?_
      refine sn_sald dL_law_352 (fun x352 => ?_)
      refine sn_callVI (vs := [aI x347, aI x352]) (ci := 10) (cX10_rope_ok n p0.1 x347 x352 μ18) dL_law_353 cw_L_32 rfl rfl rfl (by decide) (by decide) (Nat.le_of_ble_eq_true rfl) (fun p353 => ?_)
      refine sn_aload_n dL_law_356 rfl ?_
      refine sn_aload_n dL_law_357 rfl ?_
      refine sn_iload_n dL_law_358 rfl ?_
      refine sn_iconst dL_law_359 ?_
      refine sn_iadd dL_law_360 ?_
      refine sn_sald dL_law_361 (fun x361 => ?_)
      refine sn_aload_n dL_law_362 rfl ?_
      refine sn_iload_n dL_law_363 rfl ?_
      refine sn_iconst dL_law_364 ?_
      refine sn_iadd dL_law_365 ?_
      refine sn_sald dL_law_366 (fun x366 => ?_)
      refine sn_callVI (vs := [aI x361, aI x366]) (ci := 11) (cX11_rope_ok n p8.1 x361 x366 p353.2) dL_law_367 cw_L_35 rfl rfl rfl (by decide) (by decide) (Nat.le_of_ble_eq_true rfl) (fun p367 => ?_)
      refine sn_icmp_eq (tgt := 1271) dL_law_370 (by decide) ?_ ?_
      · refine sn_iinc (L' := [some (aA a), some (aA p0.1), some (aA p8.1), some (aI (v18 + 6))]) dL_law_1271 rfl (by decide) rfl ?_
        refine sn_goto (tgt := 18) dL_law_1274 (by decide) ?_
        exact hnx18 (v18 + 6) p367.2
      · refine sn_iconst dL_law_373 ?_
        exact sn_zret dL_law_374
    refine sn_ite (fun c33_5 => ?_) (fun c33_5 => ?_)
    · refine sn_swIn (k := 5) (off := 342) (tgt := 375) dL_law_33 c33_5 (by decide) (by decide) rfl (by decide) ?_
      refine sn_aload_n dL_law_375 rfl ?_
      refine sn_callVI (vs := []) (ci := 10) (cX10_pass_ok n p0.1 μ18) dL_law_376 cw_L_36 rfl rfl rfl (by decide) (by decide) (Nat.le_of_ble_eq_true rfl) (fun p376 => ?_)
      refine sn_aload_n dL_law_379 rfl ?_
      refine sn_callVI (vs := []) (ci := 11) (cX11_pass_ok n p8.1 p376.2) dL_law_380 cw_L_40 rfl rfl rfl (by decide) (by decide) (Nat.le_of_ble_eq_true rfl) (fun p380 => ?_)
      refine sn_icmp_eq (tgt := 1271) dL_law_383 (by decide) ?_ ?_
      · refine sn_iinc (L' := [some (aA a), some (aA p0.1), some (aA p8.1), some (aI (v18 + 6))]) dL_law_1271 rfl (by decide) rfl ?_
        refine sn_goto (tgt := 18) dL_law_1274 (by decide) ?_
        exact hnx18 (v18 + 6) p380.2
      · refine sn_iconst dL_law_386 ?_
        exact sn_zret dL_law_387
    refine sn_ite (fun c33_6 => ?_) (fun c33_6 => ?_)
    · refine sn_swIn (k := 6) (off := 355) (tgt := 388) dL_law_33 c33_6 (by decide) (by decide) rfl (by decide) ?_
      refine sn_aload_n dL_law_388 rfl ?_
      refine sn_aload_n dL_law_389 rfl ?_
      refine sn_iload_n dL_law_390 rfl ?_
      refine sn_iconst dL_law_391 ?_
      refine sn_iadd dL_law_392 ?_
      refine sn_sald dL_law_393 (fun x393 => ?_)
      refine sn_aload_n dL_law_394 rfl ?_
      refine sn_iload_n dL_law_395 rfl ?_
      refine sn_iconst dL_law_396 ?_
      refine sn_iadd dL_law_397 ?_
      refine sn_sald dL_law_398 (fun x398 => ?_)
      refine sn_callVI (vs := [aI x393, aI x398]) (ci := 10) (cX10_pull_ok n p0.1 x393 x398 μ18) dL_law_399 cw_L_41 rfl rfl rfl (by decide) (by decide) (Nat.le_of_ble_eq_true rfl) (fun p399 => ?_)
      refine sn_aload_n dL_law_402 rfl ?_
      refine sn_aload_n dL_law_403 rfl ?_
      refine sn_iload_n dL_law_404 rfl ?_
      refine sn_iconst dL_law_405 ?_
      refine sn_iadd dL_law_406 ?_
      refine sn_sald dL_law_407 (fun x407 => ?_)
      refine sn_aload_n dL_law_408 rfl ?_
      refine sn_iload_n dL_law_409 rfl ?_
      refine sn_iconst dL_law_410 ?_
      refine sn_iadd dL_law_411 ?_
      refine sn_sald dL_law_412 (fun x412 => ?_)
      refine sn_callVI (vs := [aI x407, aI x412]) (ci := 11) (cX11_pull_ok n p8.1 x407 x412 p399.2) dL_law_413 cw_L_44 rfl rfl rfl (by decide) (by decide) (Nat.le_of_ble_eq_true rfl) (fun p413 => ?_)
      refine sn_icmp_eq (tgt := 1271) dL_law_416 (by decide) ?_ ?_
      · refine sn_iinc (L' := [some (aA a), some (aA p0.1), some (aA p8.1), some (aI (v18 + 6))]) dL_law_1271 rfl (by decide) rfl ?_
        refine sn_goto (tgt := 18) dL_law_1274 (by decide) ?_
        exact hnx18 (v18 + 6) p413.2
      · refine sn_iconst dL_law_419 ?_
        exact sn_zret dL_law_420
    refine sn_ite (fun c33_7 => ?_) (fun c33_7 => ?_)
    · refine sn_swIn (k := 7) (off := 388) (tgt := 421) dL_law_33 c33_7 (by decide) (by decide) rfl (by decide) ?_
      refine sn_aload_n dL_law_421 rfl ?_
      refine sn_aload_n dL_law_422 rfl ?_
      refine sn_iload_n dL_law_423 rfl ?_
      refine sn_iconst dL_law_424 ?_
      refine sn_iadd dL_law_425 ?_
      refine sn_sald dL_law_426 (fun x426 => ?_)
      refine sn_aload_n dL_law_427 rfl ?_
      refine sn_iload_n dL_law_428 rfl ?_
      refine sn_iconst dL_law_429 ?_
      refine sn_iadd dL_law_430 ?_
      refine sn_sald dL_law_431 (fun x431 => ?_)
      refine sn_callVI (vs := [aI x426, aI x431]) (ci := 10) (cX10_judge_ok n p0.1 x426 x431 μ18) dL_law_432 cw_L_45 rfl rfl rfl (by decide) (by decide) (Nat.le_of_ble_eq_true rfl) (fun p432 => ?_)
      refine sn_aload_n dL_law_435 rfl ?_
      refine sn_aload_n dL_law_436 rfl ?_
      refine sn_iload_n dL_law_437 rfl ?_
      refine sn_iconst dL_law_438 ?_
      refine sn_iadd dL_law_439 ?_
      refine sn_sald dL_law_440 (fun x440 => ?_)
      refine sn_aload_n dL_law_441 rfl ?_
      refine sn_iload_n dL_law_442 rfl ?_
      refine sn_iconst dL_law_443 ?_
      refine sn_iadd dL_law_444 ?_
      refine sn_sald dL_law_445 (fun x445 => ?_)
      refine sn_callVI (vs := [aI x440, aI x445]) (ci := 11) (cX11_judge_ok n p8.1 x440 x445 p432.2) dL_law_446 cw_L_48 rfl rfl rfl (by decide) (by decide) (Nat.le_of_ble_eq_true rfl) (fun p446 => ?_)
      refine sn_icmp_eq (tgt := 1271) dL_law_449 (by decide) ?_ ?_
      · refine sn_iinc (L' := [some (aA a), some (aA p0.1), some (aA p8.1), some (aI (v18 + 6))]) dL_law_1271 rfl (by decide) rfl ?_
        refine sn_goto (tgt := 18) dL_law_1274 (by decide) ?_
        exact hnx18 (v18 + 6) p446.2
      · refine sn_iconst dL_law_452 ?_
        exact sn_zret dL_law_453
    refine sn_ite (fun c33_8 => ?_) (fun c33_8 => ?_)
    · refine sn_swIn (k := 8) (off := 421) (tgt := 454) dL_law_33 c33_8 (by decide) (by decide) rfl (by decide) ?_
      refine sn_aload_n dL_law_454 rfl ?_
      refine sn_aload_n dL_law_455 rfl ?_
      refine sn_iload_n dL_law_456 rfl ?_
      refine sn_iconst dL_law_457 ?_
      refine sn_iadd dL_law_458 ?_
      refine sn_sald dL_law_459 (fun x459 => ?_)
      refine sn_callVI (vs := [aI x459]) (ci := 10) (cX10_perform_ok n p0.1 x459 μ18) dL_law_460 cw_L_49 rfl rfl rfl (by decide) (by decide) (Nat.le_of_ble_eq_true rfl) (fun p460 => ?_)
      refine sn_aload_n dL_law_463 rfl ?_
      refine sn_aload_n dL_law_464 rfl ?_
      refine sn_iload_n dL_law_465 rfl ?_
      refine sn_iconst dL_law_466 ?_
      refine sn_iadd dL_law_467 ?_
      refine sn_sald dL_law_468 (fun x468 => ?_)
      refine sn_callVI (vs := [aI x468]) (ci := 11) (cX11_perform_ok n p8.1 x468 p460.2) dL_law_469 cw_L_52 rfl rfl rfl (by decide) (by decide) (Nat.le_of_ble_eq_true rfl) (fun p469 => ?_)
      refine sn_icmp_eq (tgt := 1271) dL_law_472 (by decide) ?_ ?_
      · refine sn_iinc (L' := [some (aA a), some (aA p0.1), some (aA p8.1), some (aI (v18 + 6))]) dL_law_1271 rfl (by decide) rfl ?_
        refine sn_goto (tgt := 18) dL_law_1274 (by decide) ?_
        exact hnx18 (v18 + 6) p469.2
      · refine sn_iconst dL_law_475 ?_
        exact sn_zret dL_law_476
    refine sn_ite (fun c33_9 => ?_) (fun c33_9 => ?_)
    · refine sn_swIn (k := 9) (off := 444) (tgt := 477) dL_law_33 c33_9 (by decide) (by decide) rfl (by decide) ?_
      refine sn_aload_n dL_law_477 rfl ?_
      refine sn_aload_n dL_law_478 rfl ?_
      refine sn_iload_n dL_law_479 rfl ?_
      refine sn_iconst dL_law_480 ?_
      refine sn_iadd dL_law_481 ?_
      refine sn_sald dL_law_482 (fun x482 => ?_)
      refine sn_aload_n dL_law_483 rfl ?_
      refine sn_iload_n dL_law_484 rfl ?_
      refine sn_iconst dL_law_485 ?_
      refine sn_iadd dL_law_486 ?_
      refine sn_sald dL_law_487 (fun x487 => ?_)
      refine sn_callVI (vs := [aI x482, aI x487]) (ci := 10) (cX10_custom_ok n p0.1 x482 x487 μ18) dL_law_488 cw_L_53 rfl rfl rfl (by decide) (by decide) (Nat.le_of_ble_eq_true rfl) (fun p488 => ?_)
      refine sn_aload_n dL_law_491 rfl ?_
      refine sn_aload_n dL_law_492 rfl ?_
      refine sn_iload_n dL_law_493 rfl ?_
      refine sn_iconst dL_law_494 ?_
      refine sn_iadd dL_law_495 ?_
      refine sn_sald dL_law_496 (fun x496 => ?_)
      refine sn_aload_n dL_law_497 rfl ?_
      refine sn_iload_n dL_law_498 rfl ?_
      refine sn_iconst dL_law_499 ?_
      refine sn_iadd dL_law_500 ?_
      refine sn_sald dL_law_501 (fun x501 => ?_)
      refine sn_callVI (vs := [aI x496, aI x501]) (ci := 11) (cX11_custom_ok n p8.1 x496 x501 p488.2) dL_law_502 cw_L_56 rfl rfl rfl (by decide) (by decide) (Nat.le_of_ble_eq_true rfl) (fun p502 => ?_)
      refine sn_icmp_eq (tgt := 1271) dL_law_505 (by decide) ?_ ?_
      · refine sn_iinc (L' := [some (aA a), some (aA p0.1), some (aA p8.1), some (aI (v18 + 6))]) dL_law_1271 rfl (by decide) rfl ?_
        refine sn_goto (tgt := 18) dL_law_1274 (by decide) ?_
        exact hnx18 (v18 + 6) p502.2
      · refine sn_iconst dL_law_508 ?_
        exact sn_zret dL_law_509
    refine sn_ite (fun c33_10 => ?_) (fun c33_10 => ?_)
    · refine sn_swIn (k := 10) (off := 477) (tgt := 510) dL_law_33 c33_10 (by decide) (by decide) rfl (by decide) ?_
      refine sn_aload_n dL_law_510 rfl ?_
      refine sn_aload_n dL_law_511 rfl ?_
      refine sn_iload_n dL_law_512 rfl ?_
      refine sn_iconst dL_law_513 ?_
      refine sn_iadd dL_law_514 ?_
      refine sn_sald dL_law_515 (fun x515 => ?_)
      refine sn_callVI (vs := [aI x515]) (ci := 10) (cX10_live_ok n p0.1 x515 μ18) dL_law_516 cw_L_57 rfl rfl rfl (by decide) (by decide) (Nat.le_of_ble_eq_true rfl) (fun p516 => ?_)
      refine sn_aload_n dL_law_519 rfl ?_
      refine sn_aload_n dL_law_520 rfl ?_
      refine sn_iload_n dL_law_521 rfl ?_
      refine sn_iconst dL_law_522 ?_
      refine sn_iadd dL_law_523 ?_
      refine sn_sald dL_law_524 (fun x524 => ?_)
      refine sn_callVI (vs := [aI x524]) (ci := 11) (cX11_live_ok n p8.1 x524 p516.2) dL_law_525 cw_L_60 rfl rfl rfl (by decide) (by decide) (Nat.le_of_ble_eq_true rfl) (fun p525 => ?_)
      refine sn_icmp_eq (tgt := 1271) dL_law_528 (by decide) ?_ ?_
      · refine sn_iinc (L' := [some (aA a), some (aA p0.1), some (aA p8.1), some (aI (v18 + 6))]) dL_law_1271 rfl (by decide) rfl ?_
        refine sn_goto (tgt := 18) dL_law_1274 (by decide) ?_
        exact hnx18 (v18 + 6) p525.2
      · refine sn_iconst dL_law_531 ?_
        exact sn_zret dL_law_532
    refine sn_ite (fun c33_11 => ?_) (fun c33_11 => ?_)
    · refine sn_swIn (k := 11) (off := 500) (tgt := 533) dL_law_33 c33_11 (by decide) (by decide) rfl (by decide) ?_
      refine sn_aload_n dL_law_533 rfl ?_
      refine sn_aload_n dL_law_534 rfl ?_
      refine sn_iload_n dL_law_535 rfl ?_
      refine sn_iconst dL_law_536 ?_
      refine sn_iadd dL_law_537 ?_
      refine sn_sald dL_law_538 (fun x538 => ?_)
      refine sn_aload_n dL_law_539 rfl ?_
      refine sn_iload_n dL_law_540 rfl ?_
      refine sn_iconst dL_law_541 ?_
      refine sn_iadd dL_law_542 ?_
      refine sn_sald dL_law_543 (fun x543 => ?_)
      refine sn_callVI (vs := [aI x538, aI x543]) (ci := 10) (cX10_drought_ok n p0.1 x538 x543 μ18) dL_law_544 cw_L_61 rfl rfl rfl (by decide) (by decide) (Nat.le_of_ble_eq_true rfl) (fun p544 => ?_)
      refine sn_aload_n dL_law_547 rfl ?_
      refine sn_aload_n dL_law_548 rfl ?_
      refine sn_iload_n dL_law_549 rfl ?_
      refine sn_iconst dL_law_550 ?_
      refine sn_iadd dL_law_551 ?_
      refine sn_sald dL_law_552 (fun x552 => ?_)
      refine sn_aload_n dL_law_553 rfl ?_
      refine sn_iload_n dL_law_554 rfl ?_
      refine sn_iconst dL_law_555 ?_
      refine sn_iadd dL_law_556 ?_
      refine sn_sald dL_law_557 (fun x557 => ?_)
      refine sn_callVI (vs := [aI x552, aI x557]) (ci := 11) (cX11_drought_ok n p8.1 x552 x557 p544.2) dL_law_558 cw_L_64 rfl rfl rfl (by decide) (by decide) (Nat.le_of_ble_eq_true rfl) (fun p558 => ?_)
      refine sn_icmp_eq (tgt := 1271) dL_law_561 (by decide) ?_ ?_
      · refine sn_iinc (L' := [some (aA a), some (aA p0.1), some (aA p8.1), some (aI (v18 + 6))]) dL_law_1271 rfl (by decide) rfl ?_
        refine sn_goto (tgt := 18) dL_law_1274 (by decide) ?_
        exact hnx18 (v18 + 6) p558.2
      · refine sn_iconst dL_law_564 ?_
        exact sn_zret dL_law_565
    refine sn_ite (fun c33_12 => ?_) (fun c33_12 => ?_)
    · refine sn_swIn (k := 12) (off := 533) (tgt := 566) dL_law_33 c33_12 (by decide) (by decide) rfl (by decide) ?_
      refine sn_aload_n dL_law_566 rfl ?_
      refine sn_aload_n dL_law_567 rfl ?_
      refine sn_iload_n dL_law_568 rfl ?_
      refine sn_iconst dL_law_569 ?_
      refine sn_iadd dL_law_570 ?_
      refine sn_sald dL_law_571 (fun x571 => ?_)
      refine sn_callVI (vs := [aI x571]) (ci := 10) (cX10_cut_ok n p0.1 x571 μ18) dL_law_572 cw_L_65 rfl rfl rfl (by decide) (by decide) (Nat.le_of_ble_eq_true rfl) (fun p572 => ?_)
      refine sn_aload_n dL_law_575 rfl ?_
      refine sn_aload_n dL_law_576 rfl ?_
      refine sn_iload_n dL_law_577 rfl ?_
      refine sn_iconst dL_law_578 ?_
      refine sn_iadd dL_law_579 ?_
      refine sn_sald dL_law_580 (fun x580 => ?_)
      refine sn_callVI (vs := [aI x580]) (ci := 11) (cX11_cut_ok n p8.1 x580 p572.2) dL_law_581 cw_L_68 rfl rfl rfl (by decide) (by decide) (Nat.le_of_ble_eq_true rfl) (fun p581 => ?_)
      refine sn_icmp_eq (tgt := 1271) dL_law_584 (by decide) ?_ ?_
      · refine sn_iinc (L' := [some (aA a), some (aA p0.1), some (aA p8.1), some (aI (v18 + 6))]) dL_law_1271 rfl (by decide) rfl ?_
        refine sn_goto (tgt := 18) dL_law_1274 (by decide) ?_
        exact hnx18 (v18 + 6) p581.2
      · refine sn_iconst dL_law_587 ?_
        exact sn_zret dL_law_588
    refine sn_ite (fun c33_13 => ?_) (fun c33_13 => ?_)
    · refine sn_swIn (k := 13) (off := 556) (tgt := 589) dL_law_33 c33_13 (by decide) (by decide) rfl (by decide) ?_
      refine sn_aload_n dL_law_589 rfl ?_
      refine sn_aload_n dL_law_590 rfl ?_
      refine sn_iload_n dL_law_591 rfl ?_
      refine sn_iconst dL_law_592 ?_
      refine sn_iadd dL_law_593 ?_
      refine sn_sald dL_law_594 (fun x594 => ?_)
      refine sn_aload_n dL_law_595 rfl ?_
      refine sn_iload_n dL_law_596 rfl ?_
      refine sn_iconst dL_law_597 ?_
      refine sn_iadd dL_law_598 ?_
      refine sn_sald dL_law_599 (fun x599 => ?_)
      refine sn_jn (pcj := 608) (La := fun v608 : Int => [some (aA a), some (aA p0.1), some (aA p8.1), some (aI v18)]) (Sa := fun v608 : Int => [aI v608, aI x594, aA p0.1]) ?_ ?_
      · intro v608 μ608
        refine sn_aload_n dL_law_608 rfl ?_
        refine sn_iload_n dL_law_609 rfl ?_
        refine sn_iconst dL_law_610 ?_
        refine sn_iadd dL_law_611 ?_
        refine sn_sald dL_law_612 (fun x612 => ?_)
        refine sn_callVI (vs := [aI x594, aI v608, aI x612]) (ci := 10) (cX10_stones_ok n p0.1 x594 v608 x612 μ608) dL_law_613 cw_L_69 rfl rfl rfl (by decide) (by decide) (Nat.le_of_ble_eq_true rfl) (fun p613 => ?_)
        refine sn_aload_n dL_law_616 rfl ?_
        refine sn_aload_n dL_law_617 rfl ?_
        refine sn_iload_n dL_law_618 rfl ?_
        refine sn_iconst dL_law_619 ?_
        refine sn_iadd dL_law_620 ?_
        refine sn_sald dL_law_621 (fun x621 => ?_)
        refine sn_aload_n dL_law_622 rfl ?_
        refine sn_iload_n dL_law_623 rfl ?_
        refine sn_iconst dL_law_624 ?_
        refine sn_iadd dL_law_625 ?_
        refine sn_sald dL_law_626 (fun x626 => ?_)
        refine sn_jn (pcj := 635) (La := fun v635 : Int => [some (aA a), some (aA p0.1), some (aA p8.1), some (aI v18)]) (Sa := fun v635 : Int => [aI v635, aI x621, aA p8.1, aI p613.1]) ?_ ?_
        · intro v635 μ635
          refine sn_aload_n dL_law_635 rfl ?_
          refine sn_iload_n dL_law_636 rfl ?_
          refine sn_iconst dL_law_637 ?_
          refine sn_iadd dL_law_638 ?_
          refine sn_sald dL_law_639 (fun x639 => ?_)
          refine sn_callVI (vs := [aI x621, aI v635, aI x639]) (ci := 11) (cX11_stones_ok n p8.1 x621 v635 x639 μ635) dL_law_640 cw_L_73 rfl rfl rfl (by decide) (by decide) (Nat.le_of_ble_eq_true rfl) (fun p640 => ?_)
          refine sn_icmp_eq (tgt := 1271) dL_law_643 (by decide) ?_ ?_
          · refine sn_iinc (L' := [some (aA a), some (aA p0.1), some (aA p8.1), some (aI (v18 + 6))]) dL_law_1271 rfl (by decide) rfl ?_
            refine sn_goto (tgt := 18) dL_law_1274 (by decide) ?_
            exact hnx18 (v18 + 6) p640.2
          · refine sn_iconst dL_law_646 ?_
            exact sn_zret dL_law_647
        intro j635 hj635
        refine sn_if_eq (tgt := 634) dL_law_627 (by decide) ?_ ?_
        · refine sn_iconst dL_law_634 ?_
          exact hj635 0 p613.2
        · refine sn_iconst dL_law_630 ?_
          refine sn_goto (tgt := 635) dL_law_631 (by decide) ?_
          exact hj635 1 p613.2
      intro j608 hj608
      refine sn_if_eq (tgt := 607) dL_law_600 (by decide) ?_ ?_
      · refine sn_iconst dL_law_607 ?_
        exact hj608 0 μ18
      · refine sn_iconst dL_law_603 ?_
        refine sn_goto (tgt := 608) dL_law_604 (by decide) ?_
        exact hj608 1 μ18
    refine sn_ite (fun c33_14 => ?_) (fun c33_14 => ?_)
    · refine sn_swIn (k := 14) (off := 615) (tgt := 648) dL_law_33 c33_14 (by decide) (by decide) rfl (by decide) ?_
      refine sn_aload_n dL_law_648 rfl ?_
      refine sn_callVI (vs := []) (ci := 10) (cX10_rests_ok n p0.1 μ18) dL_law_649 cw_L_74 rfl rfl rfl (by decide) (by decide) (Nat.le_of_ble_eq_true rfl) (fun p649 => ?_)
      refine sn_aload_n dL_law_652 rfl ?_
      refine sn_callVI (vs := []) (ci := 11) (cX11_rests_ok n p8.1 p649.2) dL_law_653 cw_L_77 rfl rfl rfl (by decide) (by decide) (Nat.le_of_ble_eq_true rfl) (fun p653 => ?_)
      refine sn_icmp_eq (tgt := 1271) dL_law_656 (by decide) ?_ ?_
      · refine sn_iinc (L' := [some (aA a), some (aA p0.1), some (aA p8.1), some (aI (v18 + 6))]) dL_law_1271 rfl (by decide) rfl ?_
        refine sn_goto (tgt := 18) dL_law_1274 (by decide) ?_
        exact hnx18 (v18 + 6) p653.2
      · refine sn_iconst dL_law_659 ?_
        exact sn_zret dL_law_660
    refine sn_ite (fun c33_15 => ?_) (fun c33_15 => ?_)
    · refine sn_swIn (k := 15) (off := 628) (tgt := 661) dL_law_33 c33_15 (by decide) (by decide) rfl (by decide) ?_
      refine sn_aload_n dL_law_661 rfl ?_
      refine sn_callVI (vs := []) (ci := 10) (cX10_calm_ok n p0.1 μ18) dL_law_662 cw_L_78 rfl rfl rfl (by decide) (by decide) (Nat.le_of_ble_eq_true rfl) (fun p662 => ?_)
      refine sn_aload_n dL_law_665 rfl ?_
      refine sn_callVI (vs := []) (ci := 11) (cX11_calm_ok n p8.1 p662.2) dL_law_666 cw_L_81 rfl rfl rfl (by decide) (by decide) (Nat.le_of_ble_eq_true rfl) (fun p666 => ?_)
      refine sn_icmp_eq (tgt := 1271) dL_law_669 (by decide) ?_ ?_
      · refine sn_iinc (L' := [some (aA a), some (aA p0.1), some (aA p8.1), some (aI (v18 + 6))]) dL_law_1271 rfl (by decide) rfl ?_
        refine sn_goto (tgt := 18) dL_law_1274 (by decide) ?_
        exact hnx18 (v18 + 6) p666.2
      · refine sn_iconst dL_law_672 ?_
        exact sn_zret dL_law_673
    refine sn_ite (fun c33_16 => ?_) (fun c33_16 => ?_)
    · refine sn_swIn (k := 16) (off := 641) (tgt := 674) dL_law_33 c33_16 (by decide) (by decide) rfl (by decide) ?_
      refine sn_aload_n dL_law_674 rfl ?_
      refine sn_callVI (vs := []) (ci := 10) (cX10_even_ok n p0.1 μ18) dL_law_675 cw_L_82 rfl rfl rfl (by decide) (by decide) (Nat.le_of_ble_eq_true rfl) (fun p675 => ?_)
      refine sn_aload_n dL_law_678 rfl ?_
      refine sn_callVI (vs := []) (ci := 11) (cX11_even_ok n p8.1 p675.2) dL_law_679 cw_L_85 rfl rfl rfl (by decide) (by decide) (Nat.le_of_ble_eq_true rfl) (fun p679 => ?_)
      refine sn_icmp_eq (tgt := 1271) dL_law_682 (by decide) ?_ ?_
      · refine sn_iinc (L' := [some (aA a), some (aA p0.1), some (aA p8.1), some (aI (v18 + 6))]) dL_law_1271 rfl (by decide) rfl ?_
        refine sn_goto (tgt := 18) dL_law_1274 (by decide) ?_
        exact hnx18 (v18 + 6) p679.2
      · refine sn_iconst dL_law_685 ?_
        exact sn_zret dL_law_686
    refine sn_ite (fun c33_17 => ?_) (fun c33_17 => ?_)
    · refine sn_swIn (k := 17) (off := 654) (tgt := 687) dL_law_33 c33_17 (by decide) (by decide) rfl (by decide) ?_
      refine sn_aload_n dL_law_687 rfl ?_
      refine sn_aload_n dL_law_688 rfl ?_
      refine sn_iload_n dL_law_689 rfl ?_
      refine sn_iconst dL_law_690 ?_
      refine sn_iadd dL_law_691 ?_
      refine sn_sald dL_law_692 (fun x692 => ?_)
      refine sn_aload_n dL_law_693 rfl ?_
      refine sn_iload_n dL_law_694 rfl ?_
      refine sn_iconst dL_law_695 ?_
      refine sn_iadd dL_law_696 ?_
      refine sn_sald dL_law_697 (fun x697 => ?_)
      refine sn_callVI (vs := [aI x692, aI x697]) (ci := 10) (cX10_lifts_ok n p0.1 x692 x697 μ18) dL_law_698 cw_L_86 rfl rfl rfl (by decide) (by decide) (Nat.le_of_ble_eq_true rfl) (fun p698 => ?_)
      refine sn_aload_n dL_law_701 rfl ?_
      refine sn_aload_n dL_law_702 rfl ?_
      refine sn_iload_n dL_law_703 rfl ?_
      refine sn_iconst dL_law_704 ?_
      refine sn_iadd dL_law_705 ?_
      refine sn_sald dL_law_706 (fun x706 => ?_)
      refine sn_aload_n dL_law_707 rfl ?_
      refine sn_iload_n dL_law_708 rfl ?_
      refine sn_iconst dL_law_709 ?_
      refine sn_iadd dL_law_710 ?_
      refine sn_sald dL_law_711 (fun x711 => ?_)
      refine sn_callVI (vs := [aI x706, aI x711]) (ci := 11) (cX11_lifts_ok n p8.1 x706 x711 p698.2) dL_law_712 cw_L_89 rfl rfl rfl (by decide) (by decide) (Nat.le_of_ble_eq_true rfl) (fun p712 => ?_)
      refine sn_icmp_eq (tgt := 1271) dL_law_715 (by decide) ?_ ?_
      · refine sn_iinc (L' := [some (aA a), some (aA p0.1), some (aA p8.1), some (aI (v18 + 6))]) dL_law_1271 rfl (by decide) rfl ?_
        refine sn_goto (tgt := 18) dL_law_1274 (by decide) ?_
        exact hnx18 (v18 + 6) p712.2
      · refine sn_iconst dL_law_718 ?_
        exact sn_zret dL_law_719
    refine sn_ite (fun c33_18 => ?_) (fun c33_18 => ?_)
    · refine sn_swIn (k := 18) (off := 687) (tgt := 720) dL_law_33 c33_18 (by decide) (by decide) rfl (by decide) ?_
      refine sn_aload_n dL_law_720 rfl ?_
      refine sn_callVI (vs := []) (ci := 10) (cX10_together_ok n p0.1 μ18) dL_law_721 cw_L_90 rfl rfl rfl (by decide) (by decide) (Nat.le_of_ble_eq_true rfl) (fun p721 => ?_)
      refine sn_aload_n dL_law_724 rfl ?_
      refine sn_callVI (vs := []) (ci := 11) (cX11_together_ok n p8.1 p721.2) dL_law_725 cw_L_93 rfl rfl rfl (by decide) (by decide) (Nat.le_of_ble_eq_true rfl) (fun p725 => ?_)
      refine sn_icmp_eq (tgt := 1271) dL_law_728 (by decide) ?_ ?_
      · refine sn_iinc (L' := [some (aA a), some (aA p0.1), some (aA p8.1), some (aI (v18 + 6))]) dL_law_1271 rfl (by decide) rfl ?_
        refine sn_goto (tgt := 18) dL_law_1274 (by decide) ?_
        exact hnx18 (v18 + 6) p725.2
      · refine sn_iconst dL_law_731 ?_
        exact sn_zret dL_law_732
    refine sn_ite (fun c33_19 => ?_) (fun c33_19 => ?_)
    · refine sn_swIn (k := 19) (off := 700) (tgt := 733) dL_law_33 c33_19 (by decide) (by decide) rfl (by decide) ?_
      refine sn_aload_n dL_law_733 rfl ?_
      refine sn_callVI (vs := []) (ci := 10) (cX10_parted_ok n p0.1 μ18) dL_law_734 cw_L_94 rfl rfl rfl (by decide) (by decide) (Nat.le_of_ble_eq_true rfl) (fun p734 => ?_)
      refine sn_aload_n dL_law_737 rfl ?_
      refine sn_callVI (vs := []) (ci := 11) (cX11_parted_ok n p8.1 p734.2) dL_law_738 cw_L_97 rfl rfl rfl (by decide) (by decide) (Nat.le_of_ble_eq_true rfl) (fun p738 => ?_)
      refine sn_icmp_eq (tgt := 1271) dL_law_741 (by decide) ?_ ?_
      · refine sn_iinc (L' := [some (aA a), some (aA p0.1), some (aA p8.1), some (aI (v18 + 6))]) dL_law_1271 rfl (by decide) rfl ?_
        refine sn_goto (tgt := 18) dL_law_1274 (by decide) ?_
        exact hnx18 (v18 + 6) p738.2
      · refine sn_iconst dL_law_744 ?_
        exact sn_zret dL_law_745
    refine sn_ite (fun c33_20 => ?_) (fun c33_20 => ?_)
    · refine sn_swIn (k := 20) (off := 713) (tgt := 746) dL_law_33 c33_20 (by decide) (by decide) rfl (by decide) ?_
      refine sn_aload_n dL_law_746 rfl ?_
      refine sn_callVI (vs := []) (ci := 10) (cX10_ring_ok n p0.1 μ18) dL_law_747 cw_L_98 rfl rfl rfl (by decide) (by decide) (Nat.le_of_ble_eq_true rfl) (fun p747 => ?_)
      refine sn_aload_n dL_law_750 rfl ?_
      refine sn_callVI (vs := []) (ci := 11) (cX11_ring_ok n p8.1 p747.2) dL_law_751 cw_L_101 rfl rfl rfl (by decide) (by decide) (Nat.le_of_ble_eq_true rfl) (fun p751 => ?_)
      refine sn_icmp_eq (tgt := 1271) dL_law_754 (by decide) ?_ ?_
      · refine sn_iinc (L' := [some (aA a), some (aA p0.1), some (aA p8.1), some (aI (v18 + 6))]) dL_law_1271 rfl (by decide) rfl ?_
        refine sn_goto (tgt := 18) dL_law_1274 (by decide) ?_
        exact hnx18 (v18 + 6) p751.2
      · refine sn_iconst dL_law_757 ?_
        exact sn_zret dL_law_758
    refine sn_ite (fun c33_21 => ?_) (fun c33_21 => ?_)
    · refine sn_swIn (k := 21) (off := 726) (tgt := 759) dL_law_33 c33_21 (by decide) (by decide) rfl (by decide) ?_
      refine sn_aload_n dL_law_759 rfl ?_
      refine sn_aload_n dL_law_760 rfl ?_
      refine sn_iload_n dL_law_761 rfl ?_
      refine sn_iconst dL_law_762 ?_
      refine sn_iadd dL_law_763 ?_
      refine sn_sald dL_law_764 (fun x764 => ?_)
      refine sn_callVI (vs := [aI x764]) (ci := 10) (cX10_neighbours_ok n p0.1 x764 μ18) dL_law_765 cw_L_102 rfl rfl rfl (by decide) (by decide) (Nat.le_of_ble_eq_true rfl) (fun p765 => ?_)
      refine sn_aload_n dL_law_768 rfl ?_
      refine sn_aload_n dL_law_769 rfl ?_
      refine sn_iload_n dL_law_770 rfl ?_
      refine sn_iconst dL_law_771 ?_
      refine sn_iadd dL_law_772 ?_
      refine sn_sald dL_law_773 (fun x773 => ?_)
      refine sn_callVI (vs := [aI x773]) (ci := 11) (cX11_neighbours_ok n p8.1 x773 p765.2) dL_law_774 cw_L_105 rfl rfl rfl (by decide) (by decide) (Nat.le_of_ble_eq_true rfl) (fun p774 => ?_)
      refine sn_icmp_eq (tgt := 1271) dL_law_777 (by decide) ?_ ?_
      · refine sn_iinc (L' := [some (aA a), some (aA p0.1), some (aA p8.1), some (aI (v18 + 6))]) dL_law_1271 rfl (by decide) rfl ?_
        refine sn_goto (tgt := 18) dL_law_1274 (by decide) ?_
        exact hnx18 (v18 + 6) p774.2
      · refine sn_iconst dL_law_780 ?_
        exact sn_zret dL_law_781
    refine sn_ite (fun c33_22 => ?_) (fun c33_22 => ?_)
    · refine sn_swIn (k := 22) (off := 749) (tgt := 782) dL_law_33 c33_22 (by decide) (by decide) rfl (by decide) ?_
      refine sn_aload_n dL_law_782 rfl ?_
      refine sn_aload_n dL_law_783 rfl ?_
      refine sn_iload_n dL_law_784 rfl ?_
      refine sn_iconst dL_law_785 ?_
      refine sn_iadd dL_law_786 ?_
      refine sn_sald dL_law_787 (fun x787 => ?_)
      refine sn_callVI (vs := [aI x787]) (ci := 10) (cX10_severs_ok n p0.1 x787 μ18) dL_law_788 cw_L_106 rfl rfl rfl (by decide) (by decide) (Nat.le_of_ble_eq_true rfl) (fun p788 => ?_)
      refine sn_aload_n dL_law_791 rfl ?_
      refine sn_aload_n dL_law_792 rfl ?_
      refine sn_iload_n dL_law_793 rfl ?_
      refine sn_iconst dL_law_794 ?_
      refine sn_iadd dL_law_795 ?_
      refine sn_sald dL_law_796 (fun x796 => ?_)
      refine sn_callVI (vs := [aI x796]) (ci := 11) (cX11_severs_ok n p8.1 x796 p788.2) dL_law_797 cw_L_109 rfl rfl rfl (by decide) (by decide) (Nat.le_of_ble_eq_true rfl) (fun p797 => ?_)
      refine sn_icmp_eq (tgt := 1271) dL_law_800 (by decide) ?_ ?_
      · refine sn_iinc (L' := [some (aA a), some (aA p0.1), some (aA p8.1), some (aI (v18 + 6))]) dL_law_1271 rfl (by decide) rfl ?_
        refine sn_goto (tgt := 18) dL_law_1274 (by decide) ?_
        exact hnx18 (v18 + 6) p797.2
      · refine sn_iconst dL_law_803 ?_
        exact sn_zret dL_law_804
    refine sn_ite (fun c33_23 => ?_) (fun c33_23 => ?_)
    · refine sn_swIn (k := 23) (off := 772) (tgt := 805) dL_law_33 c33_23 (by decide) (by decide) rfl (by decide) ?_
      refine sn_aload_n dL_law_805 rfl ?_
      refine sn_aload_n dL_law_806 rfl ?_
      refine sn_iload_n dL_law_807 rfl ?_
      refine sn_iconst dL_law_808 ?_
      refine sn_iadd dL_law_809 ?_
      refine sn_sald dL_law_810 (fun x810 => ?_)
      refine sn_aload_n dL_law_811 rfl ?_
      refine sn_iload_n dL_law_812 rfl ?_
      refine sn_iconst dL_law_813 ?_
      refine sn_iadd dL_law_814 ?_
      refine sn_sald dL_law_815 (fun x815 => ?_)
      refine sn_callVI (vs := [aI x810, aI x815]) (ci := 10) (cX10_soonest_ok n p0.1 x810 x815 μ18) dL_law_816 cw_L_110 rfl rfl rfl (by decide) (by decide) (Nat.le_of_ble_eq_true rfl) (fun p816 => ?_)
      refine sn_aload_n dL_law_819 rfl ?_
      refine sn_aload_n dL_law_820 rfl ?_
      refine sn_iload_n dL_law_821 rfl ?_
      refine sn_iconst dL_law_822 ?_
      refine sn_iadd dL_law_823 ?_
      refine sn_sald dL_law_824 (fun x824 => ?_)
      refine sn_aload_n dL_law_825 rfl ?_
      refine sn_iload_n dL_law_826 rfl ?_
      refine sn_iconst dL_law_827 ?_
      refine sn_iadd dL_law_828 ?_
      refine sn_sald dL_law_829 (fun x829 => ?_)
      refine sn_callVI (vs := [aI x824, aI x829]) (ci := 11) (cX11_soonest_ok n p8.1 x824 x829 p816.2) dL_law_830 cw_L_113 rfl rfl rfl (by decide) (by decide) (Nat.le_of_ble_eq_true rfl) (fun p830 => ?_)
      refine sn_icmp_eq (tgt := 1271) dL_law_833 (by decide) ?_ ?_
      · refine sn_iinc (L' := [some (aA a), some (aA p0.1), some (aA p8.1), some (aI (v18 + 6))]) dL_law_1271 rfl (by decide) rfl ?_
        refine sn_goto (tgt := 18) dL_law_1274 (by decide) ?_
        exact hnx18 (v18 + 6) p830.2
      · refine sn_iconst dL_law_836 ?_
        exact sn_zret dL_law_837
    refine sn_ite (fun c33_24 => ?_) (fun c33_24 => ?_)
    · refine sn_swIn (k := 24) (off := 805) (tgt := 838) dL_law_33 c33_24 (by decide) (by decide) rfl (by decide) ?_
      refine sn_aload_n dL_law_838 rfl ?_
      refine sn_aload_n dL_law_839 rfl ?_
      refine sn_iload_n dL_law_840 rfl ?_
      refine sn_iconst dL_law_841 ?_
      refine sn_iadd dL_law_842 ?_
      refine sn_sald dL_law_843 (fun x843 => ?_)
      refine sn_aload_n dL_law_844 rfl ?_
      refine sn_iload_n dL_law_845 rfl ?_
      refine sn_iconst dL_law_846 ?_
      refine sn_iadd dL_law_847 ?_
      refine sn_sald dL_law_848 (fun x848 => ?_)
      refine sn_callVI (vs := [aI x843, aI x848]) (ci := 10) (cX10_loss_ok n p0.1 x843 x848 μ18) dL_law_849 cw_L_114 rfl rfl rfl (by decide) (by decide) (Nat.le_of_ble_eq_true rfl) (fun p849 => ?_)
      refine sn_aload_n dL_law_852 rfl ?_
      refine sn_aload_n dL_law_853 rfl ?_
      refine sn_iload_n dL_law_854 rfl ?_
      refine sn_iconst dL_law_855 ?_
      refine sn_iadd dL_law_856 ?_
      refine sn_sald dL_law_857 (fun x857 => ?_)
      refine sn_aload_n dL_law_858 rfl ?_
      refine sn_iload_n dL_law_859 rfl ?_
      refine sn_iconst dL_law_860 ?_
      refine sn_iadd dL_law_861 ?_
      refine sn_sald dL_law_862 (fun x862 => ?_)
      refine sn_callVI (vs := [aI x857, aI x862]) (ci := 11) (cX11_loss_ok n p8.1 x857 x862 p849.2) dL_law_863 cw_L_117 rfl rfl rfl (by decide) (by decide) (Nat.le_of_ble_eq_true rfl) (fun p863 => ?_)
      refine sn_icmp_eq (tgt := 1271) dL_law_866 (by decide) ?_ ?_
      · refine sn_iinc (L' := [some (aA a), some (aA p0.1), some (aA p8.1), some (aI (v18 + 6))]) dL_law_1271 rfl (by decide) rfl ?_
        refine sn_goto (tgt := 18) dL_law_1274 (by decide) ?_
        exact hnx18 (v18 + 6) p863.2
      · refine sn_iconst dL_law_869 ?_
        exact sn_zret dL_law_870
    refine sn_ite (fun c33_25 => ?_) (fun c33_25 => ?_)
    · refine sn_swIn (k := 25) (off := 838) (tgt := 871) dL_law_33 c33_25 (by decide) (by decide) rfl (by decide) ?_
      refine sn_aload_n dL_law_871 rfl ?_
      refine sn_aload_n dL_law_872 rfl ?_
      refine sn_iload_n dL_law_873 rfl ?_
      refine sn_iconst dL_law_874 ?_
      refine sn_iadd dL_law_875 ?_
      refine sn_sald dL_law_876 (fun x876 => ?_)
      refine sn_aload_n dL_law_877 rfl ?_
      refine sn_iload_n dL_law_878 rfl ?_
      refine sn_iconst dL_law_879 ?_
      refine sn_iadd dL_law_880 ?_
      refine sn_sald dL_law_881 (fun x881 => ?_)
      refine sn_callVI (vs := [aI x876, aI x881]) (ci := 10) (cX10_cheapest_ok n p0.1 x876 x881 μ18) dL_law_882 cw_L_118 rfl rfl rfl (by decide) (by decide) (Nat.le_of_ble_eq_true rfl) (fun p882 => ?_)
      refine sn_aload_n dL_law_885 rfl ?_
      refine sn_aload_n dL_law_886 rfl ?_
      refine sn_iload_n dL_law_887 rfl ?_
      refine sn_iconst dL_law_888 ?_
      refine sn_iadd dL_law_889 ?_
      refine sn_sald dL_law_890 (fun x890 => ?_)
      refine sn_aload_n dL_law_891 rfl ?_
      refine sn_iload_n dL_law_892 rfl ?_
      refine sn_iconst dL_law_893 ?_
      refine sn_iadd dL_law_894 ?_
      refine sn_sald dL_law_895 (fun x895 => ?_)
      refine sn_callVI (vs := [aI x890, aI x895]) (ci := 11) (cX11_cheapest_ok n p8.1 x890 x895 p882.2) dL_law_896 cw_L_121 rfl rfl rfl (by decide) (by decide) (Nat.le_of_ble_eq_true rfl) (fun p896 => ?_)
      refine sn_icmp_eq (tgt := 1271) dL_law_899 (by decide) ?_ ?_
      · refine sn_iinc (L' := [some (aA a), some (aA p0.1), some (aA p8.1), some (aI (v18 + 6))]) dL_law_1271 rfl (by decide) rfl ?_
        refine sn_goto (tgt := 18) dL_law_1274 (by decide) ?_
        exact hnx18 (v18 + 6) p896.2
      · refine sn_iconst dL_law_902 ?_
        exact sn_zret dL_law_903
    refine sn_ite (fun c33_26 => ?_) (fun c33_26 => ?_)
    · refine sn_swIn (k := 26) (off := 871) (tgt := 904) dL_law_33 c33_26 (by decide) (by decide) rfl (by decide) ?_
      refine sn_aload_n dL_law_904 rfl ?_
      refine sn_aload_n dL_law_905 rfl ?_
      refine sn_iload_n dL_law_906 rfl ?_
      refine sn_iconst dL_law_907 ?_
      refine sn_iadd dL_law_908 ?_
      refine sn_sald dL_law_909 (fun x909 => ?_)
      refine sn_aload_n dL_law_910 rfl ?_
      refine sn_iload_n dL_law_911 rfl ?_
      refine sn_iconst dL_law_912 ?_
      refine sn_iadd dL_law_913 ?_
      refine sn_sald dL_law_914 (fun x914 => ?_)
      refine sn_aload_n dL_law_915 rfl ?_
      refine sn_iload_n dL_law_916 rfl ?_
      refine sn_iconst dL_law_917 ?_
      refine sn_iadd dL_law_918 ?_
      refine sn_sald dL_law_919 (fun x919 => ?_)
      refine sn_callVI (vs := [aI x909, aI x914, aI x919]) (ci := 10) (cX10_alone_ok n p0.1 x909 x914 x919 μ18) dL_law_920 cw_L_122 rfl rfl rfl (by decide) (by decide) (Nat.le_of_ble_eq_true rfl) (fun p920 => ?_)
      refine sn_aload_n dL_law_923 rfl ?_
      refine sn_aload_n dL_law_924 rfl ?_
      refine sn_iload_n dL_law_925 rfl ?_
      refine sn_iconst dL_law_926 ?_
      refine sn_iadd dL_law_927 ?_
      refine sn_sald dL_law_928 (fun x928 => ?_)
      refine sn_aload_n dL_law_929 rfl ?_
      refine sn_iload_n dL_law_930 rfl ?_
      refine sn_iconst dL_law_931 ?_
      refine sn_iadd dL_law_932 ?_
      refine sn_sald dL_law_933 (fun x933 => ?_)
      refine sn_aload_n dL_law_934 rfl ?_
      refine sn_iload_n dL_law_935 rfl ?_
      refine sn_iconst dL_law_936 ?_
      refine sn_iadd dL_law_937 ?_
      refine sn_sald dL_law_938 (fun x938 => ?_)
      refine sn_callVI (vs := [aI x928, aI x933, aI x938]) (ci := 11) (cX11_alone_ok n p8.1 x928 x933 x938 p920.2) dL_law_939 cw_L_126 rfl rfl rfl (by decide) (by decide) (Nat.le_of_ble_eq_true rfl) (fun p939 => ?_)
      refine sn_icmp_eq (tgt := 1271) dL_law_942 (by decide) ?_ ?_
      · refine sn_iinc (L' := [some (aA a), some (aA p0.1), some (aA p8.1), some (aI (v18 + 6))]) dL_law_1271 rfl (by decide) rfl ?_
        refine sn_goto (tgt := 18) dL_law_1274 (by decide) ?_
        exact hnx18 (v18 + 6) p939.2
      · refine sn_iconst dL_law_945 ?_
        exact sn_zret dL_law_946
    refine sn_ite (fun c33_27 => ?_) (fun c33_27 => ?_)
    · refine sn_swIn (k := 27) (off := 914) (tgt := 947) dL_law_33 c33_27 (by decide) (by decide) rfl (by decide) ?_
      refine sn_aload_n dL_law_947 rfl ?_
      refine sn_aload_n dL_law_948 rfl ?_
      refine sn_iload_n dL_law_949 rfl ?_
      refine sn_iconst dL_law_950 ?_
      refine sn_iadd dL_law_951 ?_
      refine sn_sald dL_law_952 (fun x952 => ?_)
      refine sn_callVI (vs := [aI x952]) (ci := 10) (cX10_mate_ok n p0.1 x952 μ18) dL_law_953 cw_L_127 rfl rfl rfl (by decide) (by decide) (Nat.le_of_ble_eq_true rfl) (fun p953 => ?_)
      refine sn_aload_n dL_law_956 rfl ?_
      refine sn_aload_n dL_law_957 rfl ?_
      refine sn_iload_n dL_law_958 rfl ?_
      refine sn_iconst dL_law_959 ?_
      refine sn_iadd dL_law_960 ?_
      refine sn_sald dL_law_961 (fun x961 => ?_)
      refine sn_callVI (vs := [aI x961]) (ci := 11) (cX11_mate_ok n p8.1 x961 p953.2) dL_law_962 cw_L_130 rfl rfl rfl (by decide) (by decide) (Nat.le_of_ble_eq_true rfl) (fun p962 => ?_)
      refine sn_icmp_eq (tgt := 1271) dL_law_965 (by decide) ?_ ?_
      · refine sn_iinc (L' := [some (aA a), some (aA p0.1), some (aA p8.1), some (aI (v18 + 6))]) dL_law_1271 rfl (by decide) rfl ?_
        refine sn_goto (tgt := 18) dL_law_1274 (by decide) ?_
        exact hnx18 (v18 + 6) p962.2
      · refine sn_iconst dL_law_968 ?_
        exact sn_zret dL_law_969
    refine sn_ite (fun c33_28 => ?_) (fun c33_28 => ?_)
    · refine sn_swIn (k := 28) (off := 937) (tgt := 970) dL_law_33 c33_28 (by decide) (by decide) rfl (by decide) ?_
      refine sn_aload_n dL_law_970 rfl ?_
      refine sn_aload_n dL_law_971 rfl ?_
      refine sn_iload_n dL_law_972 rfl ?_
      refine sn_iconst dL_law_973 ?_
      refine sn_iadd dL_law_974 ?_
      refine sn_sald dL_law_975 (fun x975 => ?_)
      refine sn_callVI (vs := [aI x975]) (ci := 10) (cX10_dwellings_ok n p0.1 x975 μ18) dL_law_976 cw_L_131 rfl rfl rfl (by decide) (by decide) (Nat.le_of_ble_eq_true rfl) (fun p976 => ?_)
      refine sn_aload_n dL_law_979 rfl ?_
      refine sn_aload_n dL_law_980 rfl ?_
      refine sn_iload_n dL_law_981 rfl ?_
      refine sn_iconst dL_law_982 ?_
      refine sn_iadd dL_law_983 ?_
      refine sn_sald dL_law_984 (fun x984 => ?_)
      refine sn_callVI (vs := [aI x984]) (ci := 11) (cX11_dwellings_ok n p8.1 x984 p976.2) dL_law_985 cw_L_134 rfl rfl rfl (by decide) (by decide) (Nat.le_of_ble_eq_true rfl) (fun p985 => ?_)
      refine sn_icmp_eq (tgt := 1271) dL_law_988 (by decide) ?_ ?_
      · refine sn_iinc (L' := [some (aA a), some (aA p0.1), some (aA p8.1), some (aI (v18 + 6))]) dL_law_1271 rfl (by decide) rfl ?_
        refine sn_goto (tgt := 18) dL_law_1274 (by decide) ?_
        exact hnx18 (v18 + 6) p985.2
      · refine sn_iconst dL_law_991 ?_
        exact sn_zret dL_law_992
    refine sn_ite (fun c33_29 => ?_) (fun c33_29 => ?_)
    · refine sn_swIn (k := 29) (off := 960) (tgt := 993) dL_law_33 c33_29 (by decide) (by decide) rfl (by decide) ?_
      refine sn_aload_n dL_law_993 rfl ?_
      refine sn_aload_n dL_law_994 rfl ?_
      refine sn_iload_n dL_law_995 rfl ?_
      refine sn_iconst dL_law_996 ?_
      refine sn_iadd dL_law_997 ?_
      refine sn_sald dL_law_998 (fun x998 => ?_)
      refine sn_callVI (vs := [aI x998]) (ci := 10) (cX10_clash_ok n p0.1 x998 μ18) dL_law_999 cw_L_135 rfl rfl rfl (by decide) (by decide) (Nat.le_of_ble_eq_true rfl) (fun p999 => ?_)
      refine sn_aload_n dL_law_1002 rfl ?_
      refine sn_aload_n dL_law_1003 rfl ?_
      refine sn_iload_n dL_law_1004 rfl ?_
      refine sn_iconst dL_law_1005 ?_
      refine sn_iadd dL_law_1006 ?_
      refine sn_sald dL_law_1007 (fun x1007 => ?_)
      refine sn_callVI (vs := [aI x1007]) (ci := 11) (cX11_clash_ok n p8.1 x1007 p999.2) dL_law_1008 cw_L_138 rfl rfl rfl (by decide) (by decide) (Nat.le_of_ble_eq_true rfl) (fun p1008 => ?_)
      refine sn_icmp_eq (tgt := 1271) dL_law_1011 (by decide) ?_ ?_
      · refine sn_iinc (L' := [some (aA a), some (aA p0.1), some (aA p8.1), some (aI (v18 + 6))]) dL_law_1271 rfl (by decide) rfl ?_
        refine sn_goto (tgt := 18) dL_law_1274 (by decide) ?_
        exact hnx18 (v18 + 6) p1008.2
      · refine sn_iconst dL_law_1014 ?_
        exact sn_zret dL_law_1015
    refine sn_ite (fun c33_30 => ?_) (fun c33_30 => ?_)
    · refine sn_swIn (k := 30) (off := 983) (tgt := 1016) dL_law_33 c33_30 (by decide) (by decide) rfl (by decide) ?_
      refine sn_aload_n dL_law_1016 rfl ?_
      refine sn_aload_n dL_law_1017 rfl ?_
      refine sn_iload_n dL_law_1018 rfl ?_
      refine sn_iconst dL_law_1019 ?_
      refine sn_iadd dL_law_1020 ?_
      refine sn_sald dL_law_1021 (fun x1021 => ?_)
      refine sn_callVI (vs := [aI x1021]) (ci := 10) (cX10_seen_ok n p0.1 x1021 μ18) dL_law_1022 cw_L_139 rfl rfl rfl (by decide) (by decide) (Nat.le_of_ble_eq_true rfl) (fun p1022 => ?_)
      refine sn_aload_n dL_law_1025 rfl ?_
      refine sn_aload_n dL_law_1026 rfl ?_
      refine sn_iload_n dL_law_1027 rfl ?_
      refine sn_iconst dL_law_1028 ?_
      refine sn_iadd dL_law_1029 ?_
      refine sn_sald dL_law_1030 (fun x1030 => ?_)
      refine sn_callVI (vs := [aI x1030]) (ci := 11) (cX11_seen_ok n p8.1 x1030 p1022.2) dL_law_1031 cw_L_142 rfl rfl rfl (by decide) (by decide) (Nat.le_of_ble_eq_true rfl) (fun p1031 => ?_)
      refine sn_icmp_eq (tgt := 1271) dL_law_1034 (by decide) ?_ ?_
      · refine sn_iinc (L' := [some (aA a), some (aA p0.1), some (aA p8.1), some (aI (v18 + 6))]) dL_law_1271 rfl (by decide) rfl ?_
        refine sn_goto (tgt := 18) dL_law_1274 (by decide) ?_
        exact hnx18 (v18 + 6) p1031.2
      · refine sn_iconst dL_law_1037 ?_
        exact sn_zret dL_law_1038
    refine sn_ite (fun c33_31 => ?_) (fun c33_31 => ?_)
    · refine sn_swIn (k := 31) (off := 1006) (tgt := 1039) dL_law_33 c33_31 (by decide) (by decide) rfl (by decide) ?_
      refine sn_aload_n dL_law_1039 rfl ?_
      refine sn_aload_n dL_law_1040 rfl ?_
      refine sn_iload_n dL_law_1041 rfl ?_
      refine sn_iconst dL_law_1042 ?_
      refine sn_iadd dL_law_1043 ?_
      refine sn_sald dL_law_1044 (fun x1044 => ?_)
      refine sn_callVI (vs := [aI x1044]) (ci := 10) (cX10_pulled_ok n p0.1 x1044 μ18) dL_law_1045 cw_L_143 rfl rfl rfl (by decide) (by decide) (Nat.le_of_ble_eq_true rfl) (fun p1045 => ?_)
      refine sn_aload_n dL_law_1048 rfl ?_
      refine sn_aload_n dL_law_1049 rfl ?_
      refine sn_iload_n dL_law_1050 rfl ?_
      refine sn_iconst dL_law_1051 ?_
      refine sn_iadd dL_law_1052 ?_
      refine sn_sald dL_law_1053 (fun x1053 => ?_)
      refine sn_callVI (vs := [aI x1053]) (ci := 11) (cX11_pulled_ok n p8.1 x1053 p1045.2) dL_law_1054 cw_L_146 rfl rfl rfl (by decide) (by decide) (Nat.le_of_ble_eq_true rfl) (fun p1054 => ?_)
      refine sn_icmp_eq (tgt := 1271) dL_law_1057 (by decide) ?_ ?_
      · refine sn_iinc (L' := [some (aA a), some (aA p0.1), some (aA p8.1), some (aI (v18 + 6))]) dL_law_1271 rfl (by decide) rfl ?_
        refine sn_goto (tgt := 18) dL_law_1274 (by decide) ?_
        exact hnx18 (v18 + 6) p1054.2
      · refine sn_iconst dL_law_1060 ?_
        exact sn_zret dL_law_1061
    refine sn_ite (fun c33_32 => ?_) (fun c33_32 => ?_)
    · refine sn_swIn (k := 32) (off := 1029) (tgt := 1062) dL_law_33 c33_32 (by decide) (by decide) rfl (by decide) ?_
      refine sn_aload_n dL_law_1062 rfl ?_
      refine sn_aload_n dL_law_1063 rfl ?_
      refine sn_iload_n dL_law_1064 rfl ?_
      refine sn_iconst dL_law_1065 ?_
      refine sn_iadd dL_law_1066 ?_
      refine sn_sald dL_law_1067 (fun x1067 => ?_)
      refine sn_aload_n dL_law_1068 rfl ?_
      refine sn_iload_n dL_law_1069 rfl ?_
      refine sn_iconst dL_law_1070 ?_
      refine sn_iadd dL_law_1071 ?_
      refine sn_sald dL_law_1072 (fun x1072 => ?_)
      refine sn_aload_n dL_law_1073 rfl ?_
      refine sn_iload_n dL_law_1074 rfl ?_
      refine sn_iconst dL_law_1075 ?_
      refine sn_iadd dL_law_1076 ?_
      refine sn_sald dL_law_1077 (fun x1077 => ?_)
      refine sn_callVI (vs := [aI x1067, aI x1072, aI x1077]) (ci := 10) (cX10_numbers_ok n p0.1 x1067 x1072 x1077 μ18) dL_law_1078 cw_L_147 rfl rfl rfl (by decide) (by decide) (Nat.le_of_ble_eq_true rfl) (fun p1078 => ?_)
      refine sn_aload_n dL_law_1081 rfl ?_
      refine sn_aload_n dL_law_1082 rfl ?_
      refine sn_iload_n dL_law_1083 rfl ?_
      refine sn_iconst dL_law_1084 ?_
      refine sn_iadd dL_law_1085 ?_
      refine sn_sald dL_law_1086 (fun x1086 => ?_)
      refine sn_aload_n dL_law_1087 rfl ?_
      refine sn_iload_n dL_law_1088 rfl ?_
      refine sn_iconst dL_law_1089 ?_
      refine sn_iadd dL_law_1090 ?_
      refine sn_sald dL_law_1091 (fun x1091 => ?_)
      refine sn_aload_n dL_law_1092 rfl ?_
      refine sn_iload_n dL_law_1093 rfl ?_
      refine sn_iconst dL_law_1094 ?_
      refine sn_iadd dL_law_1095 ?_
      refine sn_sald dL_law_1096 (fun x1096 => ?_)
      refine sn_callVI (vs := [aI x1086, aI x1091, aI x1096]) (ci := 11) (cX11_numbers_ok n p8.1 x1086 x1091 x1096 p1078.2) dL_law_1097 cw_L_150 rfl rfl rfl (by decide) (by decide) (Nat.le_of_ble_eq_true rfl) (fun p1097 => ?_)
      refine sn_icmp_eq (tgt := 1271) dL_law_1100 (by decide) ?_ ?_
      · refine sn_iinc (L' := [some (aA a), some (aA p0.1), some (aA p8.1), some (aI (v18 + 6))]) dL_law_1271 rfl (by decide) rfl ?_
        refine sn_goto (tgt := 18) dL_law_1274 (by decide) ?_
        exact hnx18 (v18 + 6) p1097.2
      · refine sn_iconst dL_law_1103 ?_
        exact sn_zret dL_law_1104
    refine sn_ite (fun c33_33 => ?_) (fun c33_33 => ?_)
    · refine sn_swIn (k := 33) (off := 1072) (tgt := 1105) dL_law_33 c33_33 (by decide) (by decide) rfl (by decide) ?_
      refine sn_aload_n dL_law_1105 rfl ?_
      refine sn_aload_n dL_law_1106 rfl ?_
      refine sn_iload_n dL_law_1107 rfl ?_
      refine sn_iconst dL_law_1108 ?_
      refine sn_iadd dL_law_1109 ?_
      refine sn_sald dL_law_1110 (fun x1110 => ?_)
      refine sn_aload_n dL_law_1111 rfl ?_
      refine sn_iload_n dL_law_1112 rfl ?_
      refine sn_iconst dL_law_1113 ?_
      refine sn_iadd dL_law_1114 ?_
      refine sn_sald dL_law_1115 (fun x1115 => ?_)
      refine sn_aload_n dL_law_1116 rfl ?_
      refine sn_iload_n dL_law_1117 rfl ?_
      refine sn_iconst dL_law_1118 ?_
      refine sn_iadd dL_law_1119 ?_
      refine sn_sald dL_law_1120 (fun x1120 => ?_)
      refine sn_i2l dL_law_1121 ?_
      refine sn_bipush dL_law_1122 (by decide) ?_
      refine sn_lshl dL_law_1124 ?_
      refine sn_aload_n dL_law_1125 rfl ?_
      refine sn_iload_n dL_law_1126 rfl ?_
      refine sn_iconst dL_law_1127 ?_
      refine sn_iadd dL_law_1128 ?_
      refine sn_sald dL_law_1129 (fun x1129 => ?_)
      refine sn_i2l dL_law_1130 ?_
      refine sn_ldc2 (v := 4294967295) dL_law_1131 k_L_151 (by decide) ?_
      refine sn_land dL_law_1134 ?_
      refine sn_lor dL_law_1135 ?_
      refine sn_callVJ (vs := [aI x1110, aI x1115, aJ (lOr (lShl (oI2l x1120) 32) (lAnd (oI2l x1129) 4294967295))]) (ci := 10) (cX10_write_ok n p0.1 x1110 x1115 (lOr (lShl (oI2l x1120) 32) (lAnd (oI2l x1129) 4294967295)) μ18) dL_law_1136 cw_L_153 rfl rfl rfl (by decide) (by decide) (Nat.le_of_ble_eq_true rfl) (fun p1136 => ?_)
      refine sn_aload_n dL_law_1139 rfl ?_
      refine sn_aload_n dL_law_1140 rfl ?_
      refine sn_iload_n dL_law_1141 rfl ?_
      refine sn_iconst dL_law_1142 ?_
      refine sn_iadd dL_law_1143 ?_
      refine sn_sald dL_law_1144 (fun x1144 => ?_)
      refine sn_aload_n dL_law_1145 rfl ?_
      refine sn_iload_n dL_law_1146 rfl ?_
      refine sn_iconst dL_law_1147 ?_
      refine sn_iadd dL_law_1148 ?_
      refine sn_sald dL_law_1149 (fun x1149 => ?_)
      refine sn_aload_n dL_law_1150 rfl ?_
      refine sn_iload_n dL_law_1151 rfl ?_
      refine sn_iconst dL_law_1152 ?_
      refine sn_iadd dL_law_1153 ?_
      refine sn_sald dL_law_1154 (fun x1154 => ?_)
      refine sn_i2l dL_law_1155 ?_
      refine sn_bipush dL_law_1156 (by decide) ?_
      refine sn_lshl dL_law_1158 ?_
      refine sn_aload_n dL_law_1159 rfl ?_
      refine sn_iload_n dL_law_1160 rfl ?_
      refine sn_iconst dL_law_1161 ?_
      refine sn_iadd dL_law_1162 ?_
      refine sn_sald dL_law_1163 (fun x1163 => ?_)
      refine sn_i2l dL_law_1164 ?_
      refine sn_ldc2 (v := 4294967295) dL_law_1165 k_L_151 (by decide) ?_
      refine sn_land dL_law_1168 ?_
      refine sn_lor dL_law_1169 ?_
      refine sn_callVJ (vs := [aI x1144, aI x1149, aJ (lOr (lShl (oI2l x1154) 32) (lAnd (oI2l x1163) 4294967295))]) (ci := 11) (cX11_write_ok n p8.1 x1144 x1149 (lOr (lShl (oI2l x1154) 32) (lAnd (oI2l x1163) 4294967295)) p1136.2) dL_law_1170 cw_L_157 rfl rfl rfl (by decide) (by decide) (Nat.le_of_ble_eq_true rfl) (fun p1170 => ?_)
      refine sn_lcmp dL_law_1173 ?_
      refine sn_if_eq (tgt := 1271) dL_law_1174 (by decide) ?_ ?_
      · refine sn_iinc (L' := [some (aA a), some (aA p0.1), some (aA p8.1), some (aI (v18 + 6))]) dL_law_1271 rfl (by decide) rfl ?_
        refine sn_goto (tgt := 18) dL_law_1274 (by decide) ?_
        exact hnx18 (v18 + 6) p1170.2
      · refine sn_iconst dL_law_1177 ?_
        exact sn_zret dL_law_1178
    refine sn_ite (fun c33_34 => ?_) (fun c33_34 => ?_)
    · refine sn_swIn (k := 34) (off := 1146) (tgt := 1179) dL_law_33 c33_34 (by decide) (by decide) rfl (by decide) ?_
      refine sn_aload_n dL_law_1179 rfl ?_
      refine sn_aload_n dL_law_1180 rfl ?_
      refine sn_iload_n dL_law_1181 rfl ?_
      refine sn_iconst dL_law_1182 ?_
      refine sn_iadd dL_law_1183 ?_
      refine sn_sald dL_law_1184 (fun x1184 => ?_)
      refine sn_callVI (vs := [aI x1184]) (ci := 10) (cX10_copy_ok n p0.1 x1184 μ18) dL_law_1185 cw_L_158 rfl rfl rfl (by decide) (by decide) (Nat.le_of_ble_eq_true rfl) (fun p1185 => ?_)
      refine sn_aload_n dL_law_1188 rfl ?_
      refine sn_aload_n dL_law_1189 rfl ?_
      refine sn_iload_n dL_law_1190 rfl ?_
      refine sn_iconst dL_law_1191 ?_
      refine sn_iadd dL_law_1192 ?_
      refine sn_sald dL_law_1193 (fun x1193 => ?_)
      refine sn_callVI (vs := [aI x1193]) (ci := 11) (cX11_copy_ok n p8.1 x1193 p1185.2) dL_law_1194 cw_L_161 rfl rfl rfl (by decide) (by decide) (Nat.le_of_ble_eq_true rfl) (fun p1194 => ?_)
      refine sn_icmp_eq (tgt := 1271) dL_law_1197 (by decide) ?_ ?_
      · refine sn_iinc (L' := [some (aA a), some (aA p0.1), some (aA p8.1), some (aI (v18 + 6))]) dL_law_1271 rfl (by decide) rfl ?_
        refine sn_goto (tgt := 18) dL_law_1274 (by decide) ?_
        exact hnx18 (v18 + 6) p1194.2
      · refine sn_iconst dL_law_1200 ?_
        exact sn_zret dL_law_1201
    refine sn_ite (fun c33_35 => ?_) (fun c33_35 => ?_)
    · refine sn_swIn (k := 35) (off := 1169) (tgt := 1202) dL_law_33 c33_35 (by decide) (by decide) rfl (by decide) ?_
      refine sn_aload_n dL_law_1202 rfl ?_
      refine sn_aload_n dL_law_1203 rfl ?_
      refine sn_iload_n dL_law_1204 rfl ?_
      refine sn_iconst dL_law_1205 ?_
      refine sn_iadd dL_law_1206 ?_
      refine sn_sald dL_law_1207 (fun x1207 => ?_)
      refine sn_callVI (vs := [aI x1207]) (ci := 10) (cX10_image_ok n p0.1 x1207 μ18) dL_law_1208 cw_L_162 rfl rfl rfl (by decide) (by decide) (Nat.le_of_ble_eq_true rfl) (fun p1208 => ?_)
      refine sn_aload_n dL_law_1211 rfl ?_
      refine sn_aload_n dL_law_1212 rfl ?_
      refine sn_iload_n dL_law_1213 rfl ?_
      refine sn_iconst dL_law_1214 ?_
      refine sn_iadd dL_law_1215 ?_
      refine sn_sald dL_law_1216 (fun x1216 => ?_)
      refine sn_callVI (vs := [aI x1216]) (ci := 11) (cX11_image_ok n p8.1 x1216 p1208.2) dL_law_1217 cw_L_165 rfl rfl rfl (by decide) (by decide) (Nat.le_of_ble_eq_true rfl) (fun p1217 => ?_)
      refine sn_icmp_eq (tgt := 1271) dL_law_1220 (by decide) ?_ ?_
      · refine sn_iinc (L' := [some (aA a), some (aA p0.1), some (aA p8.1), some (aI (v18 + 6))]) dL_law_1271 rfl (by decide) rfl ?_
        refine sn_goto (tgt := 18) dL_law_1274 (by decide) ?_
        exact hnx18 (v18 + 6) p1217.2
      · refine sn_iconst dL_law_1223 ?_
        exact sn_zret dL_law_1224
    refine sn_ite (fun c33_36 => ?_) (fun c33_36 => ?_)
    · refine sn_swIn (k := 36) (off := 1192) (tgt := 1225) dL_law_33 c33_36 (by decide) (by decide) rfl (by decide) ?_
      refine sn_aload_n dL_law_1225 rfl ?_
      refine sn_aload_n dL_law_1226 rfl ?_
      refine sn_iload_n dL_law_1227 rfl ?_
      refine sn_iconst dL_law_1228 ?_
      refine sn_iadd dL_law_1229 ?_
      refine sn_sald dL_law_1230 (fun x1230 => ?_)
      refine sn_callVI (vs := [aI x1230]) (ci := 10) (cX10_restore_ok n p0.1 x1230 μ18) dL_law_1231 cw_L_166 rfl rfl rfl (by decide) (by decide) (Nat.le_of_ble_eq_true rfl) (fun p1231 => ?_)
      refine sn_aload_n dL_law_1234 rfl ?_
      refine sn_aload_n dL_law_1235 rfl ?_
      refine sn_iload_n dL_law_1236 rfl ?_
      refine sn_iconst dL_law_1237 ?_
      refine sn_iadd dL_law_1238 ?_
      refine sn_sald dL_law_1239 (fun x1239 => ?_)
      refine sn_callVI (vs := [aI x1239]) (ci := 11) (cX11_restore_ok n p8.1 x1239 p1231.2) dL_law_1240 cw_L_169 rfl rfl rfl (by decide) (by decide) (Nat.le_of_ble_eq_true rfl) (fun p1240 => ?_)
      refine sn_icmp_eq (tgt := 1271) dL_law_1243 (by decide) ?_ ?_
      · refine sn_iinc (L' := [some (aA a), some (aA p0.1), some (aA p8.1), some (aI (v18 + 6))]) dL_law_1271 rfl (by decide) rfl ?_
        refine sn_goto (tgt := 18) dL_law_1274 (by decide) ?_
        exact hnx18 (v18 + 6) p1240.2
      · refine sn_iconst dL_law_1246 ?_
        exact sn_zret dL_law_1247
    refine sn_ite (fun c33_37 => ?_) (fun c33_37 => ?_)
    · refine sn_swIn (k := 37) (off := 1215) (tgt := 1248) dL_law_33 c33_37 (by decide) (by decide) rfl (by decide) ?_
      refine sn_aload_n dL_law_1248 rfl ?_
      refine sn_aload_n dL_law_1249 rfl ?_
      refine sn_iload_n dL_law_1250 rfl ?_
      refine sn_iconst dL_law_1251 ?_
      refine sn_iadd dL_law_1252 ?_
      refine sn_sald dL_law_1253 (fun x1253 => ?_)
      refine sn_callVI (vs := [aI x1253]) (ci := 10) (cX10_count_ok n p0.1 x1253 μ18) dL_law_1254 cw_L_170 rfl rfl rfl (by decide) (by decide) (Nat.le_of_ble_eq_true rfl) (fun p1254 => ?_)
      refine sn_aload_n dL_law_1257 rfl ?_
      refine sn_aload_n dL_law_1258 rfl ?_
      refine sn_iload_n dL_law_1259 rfl ?_
      refine sn_iconst dL_law_1260 ?_
      refine sn_iadd dL_law_1261 ?_
      refine sn_sald dL_law_1262 (fun x1262 => ?_)
      refine sn_callVI (vs := [aI x1262]) (ci := 11) (cX11_count_ok n p8.1 x1262 p1254.2) dL_law_1263 cw_L_173 rfl rfl rfl (by decide) (by decide) (Nat.le_of_ble_eq_true rfl) (fun p1263 => ?_)
      refine sn_icmp_eq (tgt := 1271) dL_law_1266 (by decide) ?_ ?_
      · refine sn_iinc (L' := [some (aA a), some (aA p0.1), some (aA p8.1), some (aI (v18 + 6))]) dL_law_1271 rfl (by decide) rfl ?_
        refine sn_goto (tgt := 18) dL_law_1274 (by decide) ?_
        exact hnx18 (v18 + 6) p1263.2
      · refine sn_iconst dL_law_1269 ?_
        exact sn_zret dL_law_1270
    refine sn_swOut (tgt := 1271) dL_law_33 (by have e0 := sw_ne c33_0 (by decide); have e1 := sw_ne c33_1 (by decide); have e2 := sw_ne c33_2 (by decide); have e3 := sw_ne c33_3 (by decide); have e4 := sw_ne c33_4 (by decide); have e5 := sw_ne c33_5 (by decide); have e6 := sw_ne c33_6 (by decide); have e7 := sw_ne c33_7 (by decide); have e8 := sw_ne c33_8 (by decide); have e9 := sw_ne c33_9 (by decide); have e10 := sw_ne c33_10 (by decide); have e11 := sw_ne c33_11 (by decide); have e12 := sw_ne c33_12 (by decide); have e13 := sw_ne c33_13 (by decide); have e14 := sw_ne c33_14 (by decide); have e15 := sw_ne c33_15 (by decide); have e16 := sw_ne c33_16 (by decide); have e17 := sw_ne c33_17 (by decide); have e18 := sw_ne c33_18 (by decide); have e19 := sw_ne c33_19 (by decide); have e20 := sw_ne c33_20 (by decide); have e21 := sw_ne c33_21 (by decide); have e22 := sw_ne c33_22 (by decide); have e23 := sw_ne c33_23 (by decide); have e24 := sw_ne c33_24 (by decide); have e25 := sw_ne c33_25 (by decide); have e26 := sw_ne c33_26 (by decide); have e27 := sw_ne c33_27 (by decide); have e28 := sw_ne c33_28 (by decide); have e29 := sw_ne c33_29 (by decide); have e30 := sw_ne c33_30 (by decide); have e31 := sw_ne c33_31 (by decide); have e32 := sw_ne c33_32 (by decide); have e33 := sw_ne c33_33 (by decide); have e34 := sw_ne c33_34 (by decide); have e35 := sw_ne c33_35 (by decide); have e36 := sw_ne c33_36 (by decide); have e37 := sw_ne c33_37 (by decide); omega) (by decide) ?_
    refine sn_iinc (L' := [some (aA a), some (aA p0.1), some (aA p8.1), some (aI (v18 + 6))]) dL_law_1271 rfl (by decide) rfl ?_
    refine sn_goto (tgt := 18) dL_law_1274 (by decide) ?_
    exact hnx18 (v18 + 6) μ18
