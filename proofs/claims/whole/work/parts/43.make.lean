set_option maxRecDepth 100000 in
theorem mk2_c1 {l : Launch} {D : va_G} {cA : Nat → ClassId} {ad : Nat → Nat} {h0 : Nat} (hAd : zAd h0 ad) : zMk l yX2_init cX2_init 2 1 20 11 344 D ad cA zqc1 zqc7 zuc1 zuc12 [.ref (ad 1)] := by
  refine zk_enter (by decide +kernel) (Nat.le_of_ble_eq_true rfl) rfl (fun p e s m below meth c A C hin P hz ls hl => ?_)
  have hx := C.1
  have hb := C.2.1
  have hl : lv_has ls 2 [(0, .ref (ad 1))] := hl
  refine lv_aload_n hx hb dX2_init_0 rfl (lv_at hl 0 rfl) ?_
  refine zk_obj C zo2_1 zo_i zo_c hl.1 dX2_init_1 (by decide) (Nat.le_of_ble_eq_true rfl) ?_
  refine lv_aload_n hx hb dX2_init_4 rfl (lv_at hl 0 rfl) ?_
  refine lv_bipush (v := 8) hx hb dX2_init_5 (by decide) ?_
  refine lv_bipush (v := 40) hx hb dX2_init_7 (by decide) ?_
  refine zk_mna C P hz hAd 8 40 (by decide) zcl2_9 za_int (by decide) (by decide) (by decide) (by decide) (by decide) (by decide) (by decide) (by decide) (by decide) dX2_init_9 (fun H hz P => ?_)
  have hz : H.size = ad zqc2.length := hz
  have P : zP D zqc2 ad cA A zuc2 s H _ := P
  refine W.eq (g2 := F0 m 13 ls [.ref (ad 2), .ref (ad 1)]) rfl ?_
  refine zk_putR C hin P hz (ci := 2) rfl iX2 tyX2 tyX2_ok nmX2 0 (by decide) rfl rfl kF2_11 (o := 1) (q := 2) (fs := [.inl 2, .inl 2, .inl 2]) rfl (by decide) rfl rfl dX2_init_13 (fun H locs hz P => ?_)
  have hz : H.size = ad zqc3.length := hz
  have P : zP D zqc3 ad cA A zuc2 s H _ := P
  refine lv_aload_n hx hb dX2_init_16 rfl (lv_at hl 0 rfl) ?_
  refine lv_bipush (v := 8) hx hb dX2_init_17 (by decide) ?_
  refine zk_newa C P hz (hAd.s 11 (by decide)) (ty := .int) rfl 0 rfl (fun h => h) za_int 8 (by first | rfl | (show _ = _; simp only [zcel, zClr_1, zClr_2, zk_arr]; rfl)) (fun _ => rfl) (by decide) (by decide) (by decide) (by decide) (by decide) dX2_init_19 (fun H hz P => ?_)
  have hz : H.size = ad zqc4.length := hz
  have P : zP D zqc4 ad cA A zuc3 s H _ := P
  refine W.eq (g2 := F0 m 21 ls [.ref (ad 11), .ref (ad 1)]) rfl ?_
  refine zk_putR C hin P hz (ci := 2) rfl iX2 tyX2 tyX2_ok nmX2 1 (by decide) rfl rfl kF2_14 (o := 1) (q := 11) (fs := [.inr 2, .inl 2, .inl 2]) rfl (by decide) rfl rfl dX2_init_21 (fun H locs hz P => ?_)
  have hz : H.size = ad zqc5.length := hz
  have P : zP D zqc5 ad cA A zuc3 s H _ := P
  refine lv_aload_n hx hb dX2_init_24 rfl (lv_at hl 0 rfl) ?_
  refine lv_bipush (v := 8) hx hb dX2_init_25 (by decide) ?_
  refine zk_newa C P hz (hAd.s 12 (by decide)) (ty := .int) rfl 0 rfl (fun h => h) za_int 8 (by first | rfl | (show _ = _; simp only [zcel, zClr_1, zClr_2, zk_arr]; rfl)) (fun _ => rfl) (by decide) (by decide) (by decide) (by decide) (by decide) dX2_init_27 (fun H hz P => ?_)
  have hz : H.size = ad zqc6.length := hz
  have P : zP D zqc6 ad cA A zuc4 s H _ := P
  refine W.eq (g2 := F0 m 29 ls [.ref (ad 12), .ref (ad 1)]) rfl ?_
  refine zk_putR C hin P hz (ci := 2) rfl iX2 tyX2 tyX2_ok nmX2 2 (by decide) rfl rfl kF2_18 (o := 1) (q := 12) (fs := [.inr 2, .inr 11, .inl 2]) rfl (by decide) rfl rfl dX2_init_29 (fun H locs hz P => ?_)
  have hz : H.size = ad zqc7.length := hz
  have P : zP D zqc7 ad cA A zuc4 s H _ := P
  refine lv_iconst (v := 0) hx hb dX2_init_32 (by decide) ?_
  refine lv_istore_n (lv' := [(1, .int 0), (0, .ref (ad 1))]) hx hb dX2_init_33 rfl hl (by decide) rfl (fun ls hl => ?_)
  refine lv_iload_n hx hb dX2_init_34 rfl (lv_at hl 0 rfl) ?_
  refine lv_bipush (v := 8) hx hb dX2_init_35 (by decide) ?_
  refine lv_icmp_ge (tgt := 53) hx hb dX2_init_37 (by decide) (fun c9 => absurd c9 (by decide)) (fun _ => ?_)
  refine lv_aload_n hx hb dX2_init_40 rfl (lv_at hl 1 rfl) ?_
  refine gF2_18 C P (o := 1) (q := 12) (fs := [.inr 2, .inr 11, .inr 12]) rfl rfl dX2_init_41 ?_
  refine lv_iload_n hx hb dX2_init_44 rfl (lv_at hl 0 rfl) ?_
  refine lv_iconst (v := (-1)) hx hb dX2_init_45 (by decide) ?_
  refine zk_iast C P hz (q := 12) (n := 8) (rs := []) rfl dX2_init_46 (by decide) (fun H locs hz P => ?_)
  have hz : H.size = ad zqc7.length := hz
  have P : zP D zqc7 ad cA A zuc5 s H _ := P
  refine lv_iinc (v := 1) (lv' := [(1, .int 1), (0, .ref (ad 1))]) hx hb dX2_init_47 hl (k := 0) rfl (by decide) (by decide) rfl (fun ls hl => ?_)
  refine lv_goto (tgt := 34) hx hb dX2_init_50 (by decide) ?_
  refine lv_iload_n hx hb dX2_init_34 rfl (lv_at hl 0 rfl) ?_
  refine lv_bipush (v := 8) hx hb dX2_init_35 (by decide) ?_
  refine lv_icmp_ge (tgt := 53) hx hb dX2_init_37 (by decide) (fun c9 => absurd c9 (by decide)) (fun _ => ?_)
  refine lv_aload_n hx hb dX2_init_40 rfl (lv_at hl 1 rfl) ?_
  refine gF2_18 C P (o := 1) (q := 12) (fs := [.inr 2, .inr 11, .inr 12]) rfl rfl dX2_init_41 ?_
  refine lv_iload_n hx hb dX2_init_44 rfl (lv_at hl 0 rfl) ?_
  refine lv_iconst (v := (-1)) hx hb dX2_init_45 (by decide) ?_
  refine zk_iast C P hz (q := 12) (n := 8) (rs := []) rfl dX2_init_46 (by decide) (fun H locs hz P => ?_)
  have hz : H.size = ad zqc7.length := hz
  have P : zP D zqc7 ad cA A zuc6 s H _ := P
  refine lv_iinc (v := 2) (lv' := [(1, .int 2), (0, .ref (ad 1))]) hx hb dX2_init_47 hl (k := 0) rfl (by decide) (by decide) rfl (fun ls hl => ?_)
  refine lv_goto (tgt := 34) hx hb dX2_init_50 (by decide) ?_
  refine lv_iload_n hx hb dX2_init_34 rfl (lv_at hl 0 rfl) ?_
  refine lv_bipush (v := 8) hx hb dX2_init_35 (by decide) ?_
  refine lv_icmp_ge (tgt := 53) hx hb dX2_init_37 (by decide) (fun c9 => absurd c9 (by decide)) (fun _ => ?_)
  refine lv_aload_n hx hb dX2_init_40 rfl (lv_at hl 1 rfl) ?_
  refine gF2_18 C P (o := 1) (q := 12) (fs := [.inr 2, .inr 11, .inr 12]) rfl rfl dX2_init_41 ?_
  refine lv_iload_n hx hb dX2_init_44 rfl (lv_at hl 0 rfl) ?_
  refine lv_iconst (v := (-1)) hx hb dX2_init_45 (by decide) ?_
  refine zk_iast C P hz (q := 12) (n := 8) (rs := []) rfl dX2_init_46 (by decide) (fun H locs hz P => ?_)
  have hz : H.size = ad zqc7.length := hz
  have P : zP D zqc7 ad cA A zuc7 s H _ := P
  refine lv_iinc (v := 3) (lv' := [(1, .int 3), (0, .ref (ad 1))]) hx hb dX2_init_47 hl (k := 0) rfl (by decide) (by decide) rfl (fun ls hl => ?_)
  refine lv_goto (tgt := 34) hx hb dX2_init_50 (by decide) ?_
  refine lv_iload_n hx hb dX2_init_34 rfl (lv_at hl 0 rfl) ?_
  refine lv_bipush (v := 8) hx hb dX2_init_35 (by decide) ?_
  refine lv_icmp_ge (tgt := 53) hx hb dX2_init_37 (by decide) (fun c9 => absurd c9 (by decide)) (fun _ => ?_)
  refine lv_aload_n hx hb dX2_init_40 rfl (lv_at hl 1 rfl) ?_
  refine gF2_18 C P (o := 1) (q := 12) (fs := [.inr 2, .inr 11, .inr 12]) rfl rfl dX2_init_41 ?_
  refine lv_iload_n hx hb dX2_init_44 rfl (lv_at hl 0 rfl) ?_
  refine lv_iconst (v := (-1)) hx hb dX2_init_45 (by decide) ?_
  refine zk_iast C P hz (q := 12) (n := 8) (rs := []) rfl dX2_init_46 (by decide) (fun H locs hz P => ?_)
  have hz : H.size = ad zqc7.length := hz
  have P : zP D zqc7 ad cA A zuc8 s H _ := P
  refine lv_iinc (v := 4) (lv' := [(1, .int 4), (0, .ref (ad 1))]) hx hb dX2_init_47 hl (k := 0) rfl (by decide) (by decide) rfl (fun ls hl => ?_)
  refine lv_goto (tgt := 34) hx hb dX2_init_50 (by decide) ?_
  refine lv_iload_n hx hb dX2_init_34 rfl (lv_at hl 0 rfl) ?_
  refine lv_bipush (v := 8) hx hb dX2_init_35 (by decide) ?_
  refine lv_icmp_ge (tgt := 53) hx hb dX2_init_37 (by decide) (fun c9 => absurd c9 (by decide)) (fun _ => ?_)
  refine lv_aload_n hx hb dX2_init_40 rfl (lv_at hl 1 rfl) ?_
  refine gF2_18 C P (o := 1) (q := 12) (fs := [.inr 2, .inr 11, .inr 12]) rfl rfl dX2_init_41 ?_
  refine lv_iload_n hx hb dX2_init_44 rfl (lv_at hl 0 rfl) ?_
  refine lv_iconst (v := (-1)) hx hb dX2_init_45 (by decide) ?_
  refine zk_iast C P hz (q := 12) (n := 8) (rs := []) rfl dX2_init_46 (by decide) (fun H locs hz P => ?_)
  have hz : H.size = ad zqc7.length := hz
  have P : zP D zqc7 ad cA A zuc9 s H _ := P
  refine lv_iinc (v := 5) (lv' := [(1, .int 5), (0, .ref (ad 1))]) hx hb dX2_init_47 hl (k := 0) rfl (by decide) (by decide) rfl (fun ls hl => ?_)
  refine lv_goto (tgt := 34) hx hb dX2_init_50 (by decide) ?_
  refine lv_iload_n hx hb dX2_init_34 rfl (lv_at hl 0 rfl) ?_
  refine lv_bipush (v := 8) hx hb dX2_init_35 (by decide) ?_
  refine lv_icmp_ge (tgt := 53) hx hb dX2_init_37 (by decide) (fun c9 => absurd c9 (by decide)) (fun _ => ?_)
  refine lv_aload_n hx hb dX2_init_40 rfl (lv_at hl 1 rfl) ?_
  refine gF2_18 C P (o := 1) (q := 12) (fs := [.inr 2, .inr 11, .inr 12]) rfl rfl dX2_init_41 ?_
  refine lv_iload_n hx hb dX2_init_44 rfl (lv_at hl 0 rfl) ?_
  refine lv_iconst (v := (-1)) hx hb dX2_init_45 (by decide) ?_
  refine zk_iast C P hz (q := 12) (n := 8) (rs := []) rfl dX2_init_46 (by decide) (fun H locs hz P => ?_)
  have hz : H.size = ad zqc7.length := hz
  have P : zP D zqc7 ad cA A zuc10 s H _ := P
  refine lv_iinc (v := 6) (lv' := [(1, .int 6), (0, .ref (ad 1))]) hx hb dX2_init_47 hl (k := 0) rfl (by decide) (by decide) rfl (fun ls hl => ?_)
  refine lv_goto (tgt := 34) hx hb dX2_init_50 (by decide) ?_
  refine lv_iload_n hx hb dX2_init_34 rfl (lv_at hl 0 rfl) ?_
  refine lv_bipush (v := 8) hx hb dX2_init_35 (by decide) ?_
  refine lv_icmp_ge (tgt := 53) hx hb dX2_init_37 (by decide) (fun c9 => absurd c9 (by decide)) (fun _ => ?_)
  refine lv_aload_n hx hb dX2_init_40 rfl (lv_at hl 1 rfl) ?_
  refine gF2_18 C P (o := 1) (q := 12) (fs := [.inr 2, .inr 11, .inr 12]) rfl rfl dX2_init_41 ?_
  refine lv_iload_n hx hb dX2_init_44 rfl (lv_at hl 0 rfl) ?_
  refine lv_iconst (v := (-1)) hx hb dX2_init_45 (by decide) ?_
  refine zk_iast C P hz (q := 12) (n := 8) (rs := []) rfl dX2_init_46 (by decide) (fun H locs hz P => ?_)
  have hz : H.size = ad zqc7.length := hz
  have P : zP D zqc7 ad cA A zuc11 s H _ := P
  refine lv_iinc (v := 7) (lv' := [(1, .int 7), (0, .ref (ad 1))]) hx hb dX2_init_47 hl (k := 0) rfl (by decide) (by decide) rfl (fun ls hl => ?_)
  refine lv_goto (tgt := 34) hx hb dX2_init_50 (by decide) ?_
  refine lv_iload_n hx hb dX2_init_34 rfl (lv_at hl 0 rfl) ?_
  refine lv_bipush (v := 8) hx hb dX2_init_35 (by decide) ?_
  refine lv_icmp_ge (tgt := 53) hx hb dX2_init_37 (by decide) (fun c9 => absurd c9 (by decide)) (fun _ => ?_)
  refine lv_aload_n hx hb dX2_init_40 rfl (lv_at hl 1 rfl) ?_
  refine gF2_18 C P (o := 1) (q := 12) (fs := [.inr 2, .inr 11, .inr 12]) rfl rfl dX2_init_41 ?_
  refine lv_iload_n hx hb dX2_init_44 rfl (lv_at hl 0 rfl) ?_
  refine lv_iconst (v := (-1)) hx hb dX2_init_45 (by decide) ?_
  refine zk_iast C P hz (q := 12) (n := 8) (rs := []) rfl dX2_init_46 (by decide) (fun H locs hz P => ?_)
  have hz : H.size = ad zqc7.length := hz
  have P : zP D zqc7 ad cA A zuc12 s H _ := P
  refine lv_iinc (v := 8) (lv' := [(1, .int 8), (0, .ref (ad 1))]) hx hb dX2_init_47 hl (k := 0) rfl (by decide) (by decide) rfl (fun ls hl => ?_)
  refine lv_goto (tgt := 34) hx hb dX2_init_50 (by decide) ?_
  refine lv_iload_n hx hb dX2_init_34 rfl (lv_at hl 0 rfl) ?_
  refine lv_bipush (v := 8) hx hb dX2_init_35 (by decide) ?_
  refine lv_icmp_ge (tgt := 53) hx hb dX2_init_37 (by decide) (fun _ => ?_) (fun c9 => absurd (by decide) c9)
  exact zk_ret C P hz (by decide) (by decide) dX2_init_53
set_option maxRecDepth 100000 in
theorem mk3_c13 {l : Launch} {D : va_G} {cA : Nat → ClassId} {ad : Nat → Nat} {h0 : Nat} (hAd : zAd h0 ad) : zMk l yX3_init cX3_init 1 1 20 1 400 D ad cA zqc9 zqc11 zuc13 zuc21 [.ref (ad 13)] := by
  refine zk_enter (by decide +kernel) (Nat.le_of_ble_eq_true rfl) rfl (fun p e s m below meth c A C hin P hz ls hl => ?_)
  have hx := C.1
  have hb := C.2.1
  have hl : lv_has ls 1 [(0, .ref (ad 13))] := hl
  refine lv_aload_n hx hb dX3_init_0 rfl (lv_at hl 0 rfl) ?_
  refine zk_obj C zo3_3 zo_i zo_c hl.1 dX3_init_1 (by decide) (Nat.le_of_ble_eq_true rfl) ?_
  refine lv_aload_n hx hb dX3_init_4 rfl (lv_at hl 0 rfl) ?_
  refine lv_sipush (v := 400) hx hb dX3_init_5 (by decide) ?_
  refine zk_newa C P hz (hAd.s 14 (by decide)) (ty := .byte) rfl 2 rfl (fun h => h) za_byte 400 (by first | rfl | (show _ = _; simp only [zcel, zClr_1, zClr_2, zk_arr]; rfl)) (fun _ => rfl) (by decide) (by decide) (by decide) (by decide) (by decide) dX3_init_8 (fun H hz P => ?_)
  have hz : H.size = ad zqc10.length := hz
  have P : zP D zqc10 ad cA A zuc14 s H _ := P
  refine W.eq (g2 := F0 m 10 ls [.ref (ad 14), .ref (ad 13)]) rfl ?_
  refine zk_putR C hin P hz (ci := 3) rfl iX3 tyX3 tyX3_ok nmX3 0 (by decide) rfl rfl kF3_11 (o := 13) (q := 14) (fs := [.inl 2, .inl 0, .inl 0, .inl 0, .inl 0, .inl 0, .inl 0, .inl 0]) rfl (by decide) rfl rfl dX3_init_10 (fun H locs hz P => ?_)
  have hz : H.size = ad zqc11.length := hz
  have P : zP D zqc11 ad cA A zuc14 s H _ := P
  refine lv_aload_n hx hb dX3_init_13 rfl (lv_at hl 0 rfl) ?_
  refine lv_iconst (v := 0) hx hb dX3_init_14 (by decide) ?_
  refine zk_putI C P hz (ci := 3) rfl iX3 tyX3 tyX3_ok nmX3 1 (by decide) rfl rfl kF3_15 (o := 13) (fs := [.inr 14, .inl 0, .inl 0, .inl 0, .inl 0, .inl 0, .inl 0, .inl 0]) rfl rfl dX3_init_15 rfl rfl (fun H locs hz P => ?_)
  have hz : H.size = ad zqc11.length := hz
  have P : zP D zqc11 ad cA A zuc15 s H _ := P
  refine lv_aload_n hx hb dX3_init_18 rfl (lv_at hl 0 rfl) ?_
  refine lv_iconst (v := 0) hx hb dX3_init_19 (by decide) ?_
  refine zk_putI C P hz (ci := 3) rfl iX3 tyX3 tyX3_ok nmX3 2 (by decide) rfl rfl kF3_19 (o := 13) (fs := [.inr 14, .inl 0, .inl 0, .inl 0, .inl 0, .inl 0, .inl 0, .inl 0]) rfl rfl dX3_init_20 rfl rfl (fun H locs hz P => ?_)
  have hz : H.size = ad zqc11.length := hz
  have P : zP D zqc11 ad cA A zuc16 s H _ := P
  refine lv_aload_n hx hb dX3_init_23 rfl (lv_at hl 0 rfl) ?_
  refine lv_iconst (v := 0) hx hb dX3_init_24 (by decide) ?_
  refine zk_putI C P hz (ci := 3) rfl iX3 tyX3 tyX3_ok nmX3 3 (by decide) rfl rfl kF3_22 (o := 13) (fs := [.inr 14, .inl 0, .inl 0, .inl 0, .inl 0, .inl 0, .inl 0, .inl 0]) rfl rfl dX3_init_25 rfl rfl (fun H locs hz P => ?_)
  have hz : H.size = ad zqc11.length := hz
  have P : zP D zqc11 ad cA A zuc17 s H _ := P
  refine lv_aload_n hx hb dX3_init_28 rfl (lv_at hl 0 rfl) ?_
  refine lv_iconst (v := 0) hx hb dX3_init_29 (by decide) ?_
  refine zk_putI C P hz (ci := 3) rfl iX3 tyX3 tyX3_ok nmX3 4 (by decide) rfl rfl kF3_25 (o := 13) (fs := [.inr 14, .inl 0, .inl 0, .inl 0, .inl 0, .inl 0, .inl 0, .inl 0]) rfl rfl dX3_init_30 rfl rfl (fun H locs hz P => ?_)
  have hz : H.size = ad zqc11.length := hz
  have P : zP D zqc11 ad cA A zuc18 s H _ := P
  refine lv_aload_n hx hb dX3_init_33 rfl (lv_at hl 0 rfl) ?_
  refine lv_iconst (v := 0) hx hb dX3_init_34 (by decide) ?_
  refine zk_putI C P hz (ci := 3) rfl iX3 tyX3 tyX3_ok nmX3 5 (by decide) rfl rfl kF3_28 (o := 13) (fs := [.inr 14, .inl 0, .inl 0, .inl 0, .inl 0, .inl 0, .inl 0, .inl 0]) rfl rfl dX3_init_35 rfl rfl (fun H locs hz P => ?_)
  have hz : H.size = ad zqc11.length := hz
  have P : zP D zqc11 ad cA A zuc19 s H _ := P
  refine lv_aload_n hx hb dX3_init_38 rfl (lv_at hl 0 rfl) ?_
  refine lv_iconst (v := 0) hx hb dX3_init_39 (by decide) ?_
  refine zk_putI C P hz (ci := 3) rfl iX3 tyX3 tyX3_ok nmX3 6 (by decide) rfl rfl kF3_31 (o := 13) (fs := [.inr 14, .inl 0, .inl 0, .inl 0, .inl 0, .inl 0, .inl 0, .inl 0]) rfl rfl dX3_init_40 rfl rfl (fun H locs hz P => ?_)
  have hz : H.size = ad zqc11.length := hz
  have P : zP D zqc11 ad cA A zuc20 s H _ := P
  refine lv_aload_n hx hb dX3_init_43 rfl (lv_at hl 0 rfl) ?_
  refine lv_iconst (v := 0) hx hb dX3_init_44 (by decide) ?_
  refine zk_putI C P hz (ci := 3) rfl iX3 tyX3 tyX3_ok nmX3 7 (by decide) rfl rfl kF3_34 (o := 13) (fs := [.inr 14, .inl 0, .inl 0, .inl 0, .inl 0, .inl 0, .inl 0, .inl 0]) rfl rfl dX3_init_45 rfl rfl (fun H locs hz P => ?_)
  have hz : H.size = ad zqc11.length := hz
  have P : zP D zqc11 ad cA A zuc21 s H _ := P
  exact zk_ret C P hz (by decide) (by decide) dX3_init_48
set_option maxRecDepth 100000 in
theorem mk4_c15 {l : Launch} {D : va_G} {cA : Nat → ClassId} {ad : Nat → Nat} {h0 : Nat} (hAd : zAd h0 ad) : zMk l yX4_init cX4_init 1 1 20 1 16 D ad cA zqc13 zqc15 zuc22 zuc24 [.ref (ad 15)] := by
  refine zk_enter (by decide +kernel) (Nat.le_of_ble_eq_true rfl) rfl (fun p e s m below meth c A C hin P hz ls hl => ?_)
  have hx := C.1
  have hb := C.2.1
  have hl : lv_has ls 1 [(0, .ref (ad 15))] := hl
  refine lv_aload_n hx hb dX4_init_0 rfl (lv_at hl 0 rfl) ?_
  refine zk_obj C zo4_3 zo_i zo_c hl.1 dX4_init_1 (by decide) (Nat.le_of_ble_eq_true rfl) ?_
  refine lv_aload_n hx hb dX4_init_4 rfl (lv_at hl 0 rfl) ?_
  refine lv_bipush (v := 16) hx hb dX4_init_5 (by decide) ?_
  refine zk_newa C P hz (hAd.s 16 (by decide)) (ty := .int) rfl 0 rfl (fun h => h) za_int 16 (by first | rfl | (show _ = _; simp only [zcel, zClr_1, zClr_2, zk_arr]; rfl)) (fun _ => rfl) (by decide) (by decide) (by decide) (by decide) (by decide) dX4_init_7 (fun H hz P => ?_)
  have hz : H.size = ad zqc14.length := hz
  have P : zP D zqc14 ad cA A zuc23 s H _ := P
  refine W.eq (g2 := F0 m 9 ls [.ref (ad 16), .ref (ad 15)]) rfl ?_
  refine zk_putR C hin P hz (ci := 4) rfl iX4 tyX4 tyX4_ok nmX4 0 (by decide) rfl rfl kF4_11 (o := 15) (q := 16) (fs := [.inl 2, .inl 0]) rfl (by decide) rfl rfl dX4_init_9 (fun H locs hz P => ?_)
  have hz : H.size = ad zqc15.length := hz
  have P : zP D zqc15 ad cA A zuc23 s H _ := P
  refine lv_aload_n hx hb dX4_init_12 rfl (lv_at hl 0 rfl) ?_
  refine lv_iconst (v := 0) hx hb dX4_init_13 (by decide) ?_
  refine zk_putI C P hz (ci := 4) rfl iX4 tyX4 tyX4_ok nmX4 1 (by decide) rfl rfl kF4_15 (o := 15) (fs := [.inr 16, .inl 0]) rfl rfl dX4_init_14 rfl rfl (fun H locs hz P => ?_)
  have hz : H.size = ad zqc15.length := hz
  have P : zP D zqc15 ad cA A zuc24 s H _ := P
  exact zk_ret C P hz (by decide) (by decide) dX4_init_17
set_option maxRecDepth 100000 in
theorem mk0_c18 {l : Launch} {D : va_G} {cA : Nat → ClassId} {ad : Nat → Nat} {h0 : Nat} (hAd : zAd h0 ad) : zMk l yX0_init cX0_init 1 1 20 4 24 D ad cA zqc18 zqc26 zuc26 zuc35 [.ref (ad 18)] := by
  refine zk_enter (by decide +kernel) (Nat.le_of_ble_eq_true rfl) rfl (fun p e s m below meth c A C hin P hz ls hl => ?_)
  have hx := C.1
  have hb := C.2.1
  have hl : lv_has ls 1 [(0, .ref (ad 18))] := hl
  refine lv_aload_n hx hb dX0_init_0 rfl (lv_at hl 0 rfl) ?_
  refine zk_obj C zo0_3 zo_i zo_c hl.1 dX0_init_1 (by decide) (Nat.le_of_ble_eq_true rfl) ?_
  refine lv_aload_n hx hb dX0_init_4 rfl (lv_at hl 0 rfl) ?_
  refine lv_iconst (v := 0) hx hb dX0_init_5 (by decide) ?_
  refine zk_putI C P hz (ci := 0) rfl iX0 tyX0 tyX0_ok nmX0 0 (by decide) rfl rfl kF0_9 (o := 18) (fs := [.inl 0, .inl 2, .inl 2, .inl 2, .inl 2, .inl 1, .inl 1, .inl 1, .inl 1]) rfl rfl dX0_init_6 rfl rfl (fun H locs hz P => ?_)
  have hz : H.size = ad zqc18.length := hz
  have P : zP D zqc18 ad cA A zuc27 s H _ := P
  refine lv_aload_n hx hb dX0_init_9 rfl (lv_at hl 0 rfl) ?_
  refine lv_bipush (v := 6) hx hb dX0_init_10 (by decide) ?_
  refine zk_newa C P hz (hAd.s 19 (by decide)) (ty := .int) rfl 0 rfl (fun h => h) za_int 6 (by first | rfl | (show _ = _; simp only [zcel, zClr_1, zClr_2, zk_arr]; rfl)) (fun _ => rfl) (by decide) (by decide) (by decide) (by decide) (by decide) dX0_init_12 (fun H hz P => ?_)
  have hz : H.size = ad zqc19.length := hz
  have P : zP D zqc19 ad cA A zuc28 s H _ := P
  refine W.eq (g2 := F0 m 14 ls [.ref (ad 19), .ref (ad 18)]) rfl ?_
  refine zk_putR C hin P hz (ci := 0) rfl iX0 tyX0 tyX0_ok nmX0 1 (by decide) rfl rfl kF0_15 (o := 18) (q := 19) (fs := [.inl 0, .inl 2, .inl 2, .inl 2, .inl 2, .inl 1, .inl 1, .inl 1, .inl 1]) rfl (by decide) rfl rfl dX0_init_14 (fun H locs hz P => ?_)
  have hz : H.size = ad zqc20.length := hz
  have P : zP D zqc20 ad cA A zuc28 s H _ := P
  refine lv_aload_n hx hb dX0_init_17 rfl (lv_at hl 0 rfl) ?_
  refine lv_bipush (v := 6) hx hb dX0_init_18 (by decide) ?_
  refine zk_newa C P hz (hAd.s 20 (by decide)) (ty := .long) rfl 1 rfl (fun h => h) za_long 6 (by first | rfl | (show _ = _; simp only [zcel, zClr_1, zClr_2, zk_arr]; rfl)) (fun _ => rfl) (by decide) (by decide) (by decide) (by decide) (by decide) dX0_init_20 (fun H hz P => ?_)
  have hz : H.size = ad zqc21.length := hz
  have P : zP D zqc21 ad cA A zuc29 s H _ := P
  refine W.eq (g2 := F0 m 22 ls [.ref (ad 20), .ref (ad 18)]) rfl ?_
  refine zk_putR C hin P hz (ci := 0) rfl iX0 tyX0 tyX0_ok nmX0 2 (by decide) rfl rfl kF0_19 (o := 18) (q := 20) (fs := [.inl 0, .inr 19, .inl 2, .inl 2, .inl 2, .inl 1, .inl 1, .inl 1, .inl 1]) rfl (by decide) rfl rfl dX0_init_22 (fun H locs hz P => ?_)
  have hz : H.size = ad zqc22.length := hz
  have P : zP D zqc22 ad cA A zuc29 s H _ := P
  refine lv_aload_n hx hb dX0_init_25 rfl (lv_at hl 0 rfl) ?_
  refine lv_bipush (v := 6) hx hb dX0_init_26 (by decide) ?_
  refine zk_newa C P hz (hAd.s 21 (by decide)) (ty := .long) rfl 1 rfl (fun h => h) za_long 6 (by first | rfl | (show _ = _; simp only [zcel, zClr_1, zClr_2, zk_arr]; rfl)) (fun _ => rfl) (by decide) (by decide) (by decide) (by decide) (by decide) dX0_init_28 (fun H hz P => ?_)
  have hz : H.size = ad zqc23.length := hz
  have P : zP D zqc23 ad cA A zuc30 s H _ := P
  refine W.eq (g2 := F0 m 30 ls [.ref (ad 21), .ref (ad 18)]) rfl ?_
  refine zk_putR C hin P hz (ci := 0) rfl iX0 tyX0 tyX0_ok nmX0 3 (by decide) rfl rfl kF0_23 (o := 18) (q := 21) (fs := [.inl 0, .inr 19, .inr 20, .inl 2, .inl 2, .inl 1, .inl 1, .inl 1, .inl 1]) rfl (by decide) rfl rfl dX0_init_30 (fun H locs hz P => ?_)
  have hz : H.size = ad zqc24.length := hz
  have P : zP D zqc24 ad cA A zuc30 s H _ := P
  refine lv_aload_n hx hb dX0_init_33 rfl (lv_at hl 0 rfl) ?_
  refine lv_bipush (v := 6) hx hb dX0_init_34 (by decide) ?_
  refine zk_newa C P hz (hAd.s 22 (by decide)) (ty := .int) rfl 0 rfl (fun h => h) za_int 6 (by first | rfl | (show _ = _; simp only [zcel, zClr_1, zClr_2, zk_arr]; rfl)) (fun _ => rfl) (by decide) (by decide) (by decide) (by decide) (by decide) dX0_init_36 (fun H hz P => ?_)
  have hz : H.size = ad zqc25.length := hz
  have P : zP D zqc25 ad cA A zuc31 s H _ := P
  refine W.eq (g2 := F0 m 38 ls [.ref (ad 22), .ref (ad 18)]) rfl ?_
  refine zk_putR C hin P hz (ci := 0) rfl iX0 tyX0 tyX0_ok nmX0 4 (by decide) rfl rfl kF0_26 (o := 18) (q := 22) (fs := [.inl 0, .inr 19, .inr 20, .inr 21, .inl 2, .inl 1, .inl 1, .inl 1, .inl 1]) rfl (by decide) rfl rfl dX0_init_38 (fun H locs hz P => ?_)
  have hz : H.size = ad zqc26.length := hz
  have P : zP D zqc26 ad cA A zuc31 s H _ := P
  refine lv_aload_n hx hb dX0_init_41 rfl (lv_at hl 0 rfl) ?_
  refine lv_lconst (v := 1) hx hb dX0_init_42 (by decide) ?_
  refine zk_putL C P hz (ci := 0) rfl iX0 tyX0 tyX0_ok nmX0 5 (by decide) rfl rfl kF0_29 (o := 18) (fs := [.inl 0, .inr 19, .inr 20, .inr 21, .inr 22, .inl 1, .inl 1, .inl 1, .inl 1]) rfl rfl dX0_init_43 rfl rfl (fun H locs hz P => ?_)
  have hz : H.size = ad zqc26.length := hz
  have P : zP D zqc26 ad cA A zuc32 s H _ := P
  refine lv_aload_n hx hb dX0_init_46 rfl (lv_at hl 0 rfl) ?_
  refine lv_lconst (v := 1) hx hb dX0_init_47 (by decide) ?_
  refine zk_putL C P hz (ci := 0) rfl iX0 tyX0 tyX0_ok nmX0 6 (by decide) rfl rfl kF0_33 (o := 18) (fs := [.inl 0, .inr 19, .inr 20, .inr 21, .inr 22, .inl 1, .inl 1, .inl 1, .inl 1]) rfl rfl dX0_init_48 rfl rfl (fun H locs hz P => ?_)
  have hz : H.size = ad zqc26.length := hz
  have P : zP D zqc26 ad cA A zuc33 s H _ := P
  refine lv_aload_n hx hb dX0_init_51 rfl (lv_at hl 0 rfl) ?_
  refine lv_lconst (v := 1) hx hb dX0_init_52 (by decide) ?_
  refine zk_putL C P hz (ci := 0) rfl iX0 tyX0 tyX0_ok nmX0 7 (by decide) rfl rfl kF0_36 (o := 18) (fs := [.inl 0, .inr 19, .inr 20, .inr 21, .inr 22, .inl 1, .inl 1, .inl 1, .inl 1]) rfl rfl dX0_init_53 rfl rfl (fun H locs hz P => ?_)
  have hz : H.size = ad zqc26.length := hz
  have P : zP D zqc26 ad cA A zuc34 s H _ := P
  refine lv_aload_n hx hb dX0_init_56 rfl (lv_at hl 0 rfl) ?_
  refine lv_lconst (v := 1) hx hb dX0_init_57 (by decide) ?_
  refine zk_putL C P hz (ci := 0) rfl iX0 tyX0 tyX0_ok nmX0 8 (by decide) rfl rfl kF0_39 (o := 18) (fs := [.inl 0, .inr 19, .inr 20, .inr 21, .inr 22, .inl 1, .inl 1, .inl 1, .inl 1]) rfl rfl dX0_init_58 rfl rfl (fun H locs hz P => ?_)
  have hz : H.size = ad zqc26.length := hz
  have P : zP D zqc26 ad cA A zuc35 s H _ := P
  exact zk_ret C P hz (by decide) (by decide) dX0_init_61
set_option maxRecDepth 100000 in
theorem mk0_c23 {l : Launch} {D : va_G} {cA : Nat → ClassId} {ad : Nat → Nat} {h0 : Nat} (hAd : zAd h0 ad) : zMk l yX0_init cX0_init 1 1 20 4 24 D ad cA zqc28 zqc36 zuc36 zuc45 [.ref (ad 23)] := by
  refine zk_enter (by decide +kernel) (Nat.le_of_ble_eq_true rfl) rfl (fun p e s m below meth c A C hin P hz ls hl => ?_)
  have hx := C.1
  have hb := C.2.1
  have hl : lv_has ls 1 [(0, .ref (ad 23))] := hl
  refine lv_aload_n hx hb dX0_init_0 rfl (lv_at hl 0 rfl) ?_
  refine zk_obj C zo0_3 zo_i zo_c hl.1 dX0_init_1 (by decide) (Nat.le_of_ble_eq_true rfl) ?_
  refine lv_aload_n hx hb dX0_init_4 rfl (lv_at hl 0 rfl) ?_
  refine lv_iconst (v := 0) hx hb dX0_init_5 (by decide) ?_
  refine zk_putI C P hz (ci := 0) rfl iX0 tyX0 tyX0_ok nmX0 0 (by decide) rfl rfl kF0_9 (o := 23) (fs := [.inl 0, .inl 2, .inl 2, .inl 2, .inl 2, .inl 1, .inl 1, .inl 1, .inl 1]) rfl rfl dX0_init_6 rfl rfl (fun H locs hz P => ?_)
  have hz : H.size = ad zqc28.length := hz
  have P : zP D zqc28 ad cA A zuc37 s H _ := P
  refine lv_aload_n hx hb dX0_init_9 rfl (lv_at hl 0 rfl) ?_
  refine lv_bipush (v := 6) hx hb dX0_init_10 (by decide) ?_
  refine zk_newa C P hz (hAd.s 24 (by decide)) (ty := .int) rfl 0 rfl (fun h => h) za_int 6 (by first | rfl | (show _ = _; simp only [zcel, zClr_1, zClr_2, zk_arr]; rfl)) (fun _ => rfl) (by decide) (by decide) (by decide) (by decide) (by decide) dX0_init_12 (fun H hz P => ?_)
  have hz : H.size = ad zqc29.length := hz
  have P : zP D zqc29 ad cA A zuc38 s H _ := P
  refine W.eq (g2 := F0 m 14 ls [.ref (ad 24), .ref (ad 23)]) rfl ?_
  refine zk_putR C hin P hz (ci := 0) rfl iX0 tyX0 tyX0_ok nmX0 1 (by decide) rfl rfl kF0_15 (o := 23) (q := 24) (fs := [.inl 0, .inl 2, .inl 2, .inl 2, .inl 2, .inl 1, .inl 1, .inl 1, .inl 1]) rfl (by decide) rfl rfl dX0_init_14 (fun H locs hz P => ?_)
  have hz : H.size = ad zqc30.length := hz
  have P : zP D zqc30 ad cA A zuc38 s H _ := P
  refine lv_aload_n hx hb dX0_init_17 rfl (lv_at hl 0 rfl) ?_
  refine lv_bipush (v := 6) hx hb dX0_init_18 (by decide) ?_
  refine zk_newa C P hz (hAd.s 25 (by decide)) (ty := .long) rfl 1 rfl (fun h => h) za_long 6 (by first | rfl | (show _ = _; simp only [zcel, zClr_1, zClr_2, zk_arr]; rfl)) (fun _ => rfl) (by decide) (by decide) (by decide) (by decide) (by decide) dX0_init_20 (fun H hz P => ?_)
  have hz : H.size = ad zqc31.length := hz
  have P : zP D zqc31 ad cA A zuc39 s H _ := P
  refine W.eq (g2 := F0 m 22 ls [.ref (ad 25), .ref (ad 23)]) rfl ?_
  refine zk_putR C hin P hz (ci := 0) rfl iX0 tyX0 tyX0_ok nmX0 2 (by decide) rfl rfl kF0_19 (o := 23) (q := 25) (fs := [.inl 0, .inr 24, .inl 2, .inl 2, .inl 2, .inl 1, .inl 1, .inl 1, .inl 1]) rfl (by decide) rfl rfl dX0_init_22 (fun H locs hz P => ?_)
  have hz : H.size = ad zqc32.length := hz
  have P : zP D zqc32 ad cA A zuc39 s H _ := P
  refine lv_aload_n hx hb dX0_init_25 rfl (lv_at hl 0 rfl) ?_
  refine lv_bipush (v := 6) hx hb dX0_init_26 (by decide) ?_
  refine zk_newa C P hz (hAd.s 26 (by decide)) (ty := .long) rfl 1 rfl (fun h => h) za_long 6 (by first | rfl | (show _ = _; simp only [zcel, zClr_1, zClr_2, zk_arr]; rfl)) (fun _ => rfl) (by decide) (by decide) (by decide) (by decide) (by decide) dX0_init_28 (fun H hz P => ?_)
  have hz : H.size = ad zqc33.length := hz
  have P : zP D zqc33 ad cA A zuc40 s H _ := P
  refine W.eq (g2 := F0 m 30 ls [.ref (ad 26), .ref (ad 23)]) rfl ?_
  refine zk_putR C hin P hz (ci := 0) rfl iX0 tyX0 tyX0_ok nmX0 3 (by decide) rfl rfl kF0_23 (o := 23) (q := 26) (fs := [.inl 0, .inr 24, .inr 25, .inl 2, .inl 2, .inl 1, .inl 1, .inl 1, .inl 1]) rfl (by decide) rfl rfl dX0_init_30 (fun H locs hz P => ?_)
  have hz : H.size = ad zqc34.length := hz
  have P : zP D zqc34 ad cA A zuc40 s H _ := P
  refine lv_aload_n hx hb dX0_init_33 rfl (lv_at hl 0 rfl) ?_
  refine lv_bipush (v := 6) hx hb dX0_init_34 (by decide) ?_
  refine zk_newa C P hz (hAd.s 27 (by decide)) (ty := .int) rfl 0 rfl (fun h => h) za_int 6 (by first | rfl | (show _ = _; simp only [zcel, zClr_1, zClr_2, zk_arr]; rfl)) (fun _ => rfl) (by decide) (by decide) (by decide) (by decide) (by decide) dX0_init_36 (fun H hz P => ?_)
  have hz : H.size = ad zqc35.length := hz
  have P : zP D zqc35 ad cA A zuc41 s H _ := P
  refine W.eq (g2 := F0 m 38 ls [.ref (ad 27), .ref (ad 23)]) rfl ?_
  refine zk_putR C hin P hz (ci := 0) rfl iX0 tyX0 tyX0_ok nmX0 4 (by decide) rfl rfl kF0_26 (o := 23) (q := 27) (fs := [.inl 0, .inr 24, .inr 25, .inr 26, .inl 2, .inl 1, .inl 1, .inl 1, .inl 1]) rfl (by decide) rfl rfl dX0_init_38 (fun H locs hz P => ?_)
  have hz : H.size = ad zqc36.length := hz
  have P : zP D zqc36 ad cA A zuc41 s H _ := P
  refine lv_aload_n hx hb dX0_init_41 rfl (lv_at hl 0 rfl) ?_
  refine lv_lconst (v := 1) hx hb dX0_init_42 (by decide) ?_
  refine zk_putL C P hz (ci := 0) rfl iX0 tyX0 tyX0_ok nmX0 5 (by decide) rfl rfl kF0_29 (o := 23) (fs := [.inl 0, .inr 24, .inr 25, .inr 26, .inr 27, .inl 1, .inl 1, .inl 1, .inl 1]) rfl rfl dX0_init_43 rfl rfl (fun H locs hz P => ?_)
  have hz : H.size = ad zqc36.length := hz
  have P : zP D zqc36 ad cA A zuc42 s H _ := P
  refine lv_aload_n hx hb dX0_init_46 rfl (lv_at hl 0 rfl) ?_
  refine lv_lconst (v := 1) hx hb dX0_init_47 (by decide) ?_
  refine zk_putL C P hz (ci := 0) rfl iX0 tyX0 tyX0_ok nmX0 6 (by decide) rfl rfl kF0_33 (o := 23) (fs := [.inl 0, .inr 24, .inr 25, .inr 26, .inr 27, .inl 1, .inl 1, .inl 1, .inl 1]) rfl rfl dX0_init_48 rfl rfl (fun H locs hz P => ?_)
  have hz : H.size = ad zqc36.length := hz
  have P : zP D zqc36 ad cA A zuc43 s H _ := P
  refine lv_aload_n hx hb dX0_init_51 rfl (lv_at hl 0 rfl) ?_
  refine lv_lconst (v := 1) hx hb dX0_init_52 (by decide) ?_
  refine zk_putL C P hz (ci := 0) rfl iX0 tyX0 tyX0_ok nmX0 7 (by decide) rfl rfl kF0_36 (o := 23) (fs := [.inl 0, .inr 24, .inr 25, .inr 26, .inr 27, .inl 1, .inl 1, .inl 1, .inl 1]) rfl rfl dX0_init_53 rfl rfl (fun H locs hz P => ?_)
  have hz : H.size = ad zqc36.length := hz
  have P : zP D zqc36 ad cA A zuc44 s H _ := P
  refine lv_aload_n hx hb dX0_init_56 rfl (lv_at hl 0 rfl) ?_
  refine lv_lconst (v := 1) hx hb dX0_init_57 (by decide) ?_
  refine zk_putL C P hz (ci := 0) rfl iX0 tyX0 tyX0_ok nmX0 8 (by decide) rfl rfl kF0_39 (o := 23) (fs := [.inl 0, .inr 24, .inr 25, .inr 26, .inr 27, .inl 1, .inl 1, .inl 1, .inl 1]) rfl rfl dX0_init_58 rfl rfl (fun H locs hz P => ?_)
  have hz : H.size = ad zqc36.length := hz
  have P : zP D zqc36 ad cA A zuc45 s H _ := P
  exact zk_ret C P hz (by decide) (by decide) dX0_init_61
set_option maxRecDepth 100000 in
theorem mk1_c17 {l : Launch} {D : va_G} {cA : Nat → ClassId} {ad : Nat → Nat} {h0 : Nat} (hAd : zAd h0 ad) : zMk l yX1_init cX1_init 1 2 40 14 87 D ad cA zqc17 zqc39 zuc25 zuc46 [.ref (ad 17)] := by
  refine zk_enter (by decide +kernel) (Nat.le_of_ble_eq_true rfl) rfl (fun p e s m below meth c A C hin P hz ls hl => ?_)
  have hx := C.1
  have hb := C.2.1
  have hl : lv_has ls 1 [(0, .ref (ad 17))] := hl
  refine lv_aload_n hx hb dX1_init_0 rfl (lv_at hl 0 rfl) ?_
  refine zk_obj C zo1_3 zo_i zo_c hl.1 dX1_init_1 (by decide) (Nat.le_of_ble_eq_true rfl) ?_
  refine lv_aload_n hx hb dX1_init_4 rfl (lv_at hl 0 rfl) ?_
  refine zk_new C P hz (hAd.s 18 (by decide)) (ci := 0) rfl iX0 tyX0 tyX0_ok zcl1_9 zins0 zin0 [.inl 0, .inl 2, .inl 2, .inl 2, .inl 2, .inl 1, .inl 1, .inl 1, .inl 1] (fun j hj => by rcases (show j = 0 ∨ j = 1 ∨ j = 2 ∨ j = 3 ∨ j = 4 ∨ j = 5 ∨ j = 6 ∨ j = 7 ∨ j = 8 by omega) with rfl | rfl | rfl | rfl | rfl | rfl | rfl | rfl | rfl <;> rfl) (by decide) (by decide) dX1_init_5 (fun H hz P => ?_)
  have hz : H.size = ad zqc18.length := hz
  have P : zP D zqc18 ad cA A zuc26 s H _ := P
  refine W.eq (g2 := F0 m 8 ls [.ref (ad 18), .ref (ad 17)]) rfl ?_
  refine lv_dup hx hb dX1_init_8 rfl ?_
  refine zk_call C P hz (mk0_c18 hAd) zi1_11 zii0 zin0 zic0 rfl (by decide +kernel) (by decide) hl.1 (Nat.le_of_ble_eq_true rfl) dX1_init_9 (by decide) (fun H locs hz P => ?_)
  have hz : H.size = ad zqc26.length := hz
  have P : zP D zqc26 ad cA A zuc35 s H _ := P
  refine zk_putR C hin P hz (ci := 1) rfl iX1 tyX1 tyX1_ok nmX1 0 (by decide) rfl rfl kF1_12 (o := 17) (q := 18) (fs := [.inl 2, .inl 2, .inl 2]) rfl (by decide) rfl rfl dX1_init_12 (fun H locs hz P => ?_)
  have hz : H.size = ad zqc27.length := hz
  have P : zP D zqc27 ad cA A zuc35 s H _ := P
  refine lv_aload_n hx hb dX1_init_15 rfl (lv_at hl 0 rfl) ?_
  refine zk_new C P hz (hAd.s 23 (by decide)) (ci := 0) rfl iX0 tyX0 tyX0_ok zcl1_9 zins0 zin0 [.inl 0, .inl 2, .inl 2, .inl 2, .inl 2, .inl 1, .inl 1, .inl 1, .inl 1] (fun j hj => by rcases (show j = 0 ∨ j = 1 ∨ j = 2 ∨ j = 3 ∨ j = 4 ∨ j = 5 ∨ j = 6 ∨ j = 7 ∨ j = 8 by omega) with rfl | rfl | rfl | rfl | rfl | rfl | rfl | rfl | rfl <;> rfl) (by decide) (by decide) dX1_init_16 (fun H hz P => ?_)
  have hz : H.size = ad zqc28.length := hz
  have P : zP D zqc28 ad cA A zuc36 s H _ := P
  refine W.eq (g2 := F0 m 19 ls [.ref (ad 23), .ref (ad 17)]) rfl ?_
  refine lv_dup hx hb dX1_init_19 rfl ?_
  refine zk_call C P hz (mk0_c23 hAd) zi1_11 zii0 zin0 zic0 rfl (by decide +kernel) (by decide) hl.1 (Nat.le_of_ble_eq_true rfl) dX1_init_20 (by decide) (fun H locs hz P => ?_)
  have hz : H.size = ad zqc36.length := hz
  have P : zP D zqc36 ad cA A zuc45 s H _ := P
  refine zk_putR C hin P hz (ci := 1) rfl iX1 tyX1 tyX1_ok nmX1 1 (by decide) rfl rfl kF1_18 (o := 17) (q := 23) (fs := [.inr 18, .inl 2, .inl 2]) rfl (by decide) rfl rfl dX1_init_23 (fun H locs hz P => ?_)
  have hz : H.size = ad zqc37.length := hz
  have P : zP D zqc37 ad cA A zuc45 s H _ := P
  refine lv_aload_n hx hb dX1_init_26 rfl (lv_at hl 0 rfl) ?_
  refine lv_iconst (v := 3) hx hb dX1_init_27 (by decide) ?_
  refine lv_bipush (v := 6) hx hb dX1_init_28 (by decide) ?_
  refine zk_mna C P hz hAd 3 6 (by decide) zcl1_21 za_int (by decide) (by decide) (by decide) (by decide) (by decide) (by decide) (by decide) (by decide) (by decide) dX1_init_30 (fun H hz P => ?_)
  have hz : H.size = ad zqc38.length := hz
  have P : zP D zqc38 ad cA A zuc46 s H _ := P
  refine W.eq (g2 := F0 m 34 ls [.ref (ad 28), .ref (ad 17)]) rfl ?_
  refine zk_putR C hin P hz (ci := 1) rfl iX1 tyX1 tyX1_ok nmX1 2 (by decide) rfl rfl kF1_23 (o := 17) (q := 28) (fs := [.inr 18, .inr 23, .inl 2]) rfl (by decide) rfl rfl dX1_init_34 (fun H locs hz P => ?_)
  have hz : H.size = ad zqc39.length := hz
  have P : zP D zqc39 ad cA A zuc46 s H _ := P
  exact zk_ret C P hz (by decide) (by decide) dX1_init_37
set_option maxRecDepth 100000 in
theorem mk0_c32 {l : Launch} {D : va_G} {cA : Nat → ClassId} {ad : Nat → Nat} {h0 : Nat} (hAd : zAd h0 ad) : zMk l yX0_init cX0_init 1 1 20 4 24 D ad cA zqc41 zqc49 zuc47 zuc56 [.ref (ad 32)] := by
  refine zk_enter (by decide +kernel) (Nat.le_of_ble_eq_true rfl) rfl (fun p e s m below meth c A C hin P hz ls hl => ?_)
  have hx := C.1
  have hb := C.2.1
  have hl : lv_has ls 1 [(0, .ref (ad 32))] := hl
  refine lv_aload_n hx hb dX0_init_0 rfl (lv_at hl 0 rfl) ?_
  refine zk_obj C zo0_3 zo_i zo_c hl.1 dX0_init_1 (by decide) (Nat.le_of_ble_eq_true rfl) ?_
  refine lv_aload_n hx hb dX0_init_4 rfl (lv_at hl 0 rfl) ?_
  refine lv_iconst (v := 0) hx hb dX0_init_5 (by decide) ?_
  refine zk_putI C P hz (ci := 0) rfl iX0 tyX0 tyX0_ok nmX0 0 (by decide) rfl rfl kF0_9 (o := 32) (fs := [.inl 0, .inl 2, .inl 2, .inl 2, .inl 2, .inl 1, .inl 1, .inl 1, .inl 1]) rfl rfl dX0_init_6 rfl rfl (fun H locs hz P => ?_)
  have hz : H.size = ad zqc41.length := hz
  have P : zP D zqc41 ad cA A zuc48 s H _ := P
  refine lv_aload_n hx hb dX0_init_9 rfl (lv_at hl 0 rfl) ?_
  refine lv_bipush (v := 6) hx hb dX0_init_10 (by decide) ?_
  refine zk_newa C P hz (hAd.s 33 (by decide)) (ty := .int) rfl 0 rfl (fun h => h) za_int 6 (by first | rfl | (show _ = _; simp only [zcel, zClr_1, zClr_2, zk_arr]; rfl)) (fun _ => rfl) (by decide) (by decide) (by decide) (by decide) (by decide) dX0_init_12 (fun H hz P => ?_)
  have hz : H.size = ad zqc42.length := hz
  have P : zP D zqc42 ad cA A zuc49 s H _ := P
  refine W.eq (g2 := F0 m 14 ls [.ref (ad 33), .ref (ad 32)]) rfl ?_
  refine zk_putR C hin P hz (ci := 0) rfl iX0 tyX0 tyX0_ok nmX0 1 (by decide) rfl rfl kF0_15 (o := 32) (q := 33) (fs := [.inl 0, .inl 2, .inl 2, .inl 2, .inl 2, .inl 1, .inl 1, .inl 1, .inl 1]) rfl (by decide) rfl rfl dX0_init_14 (fun H locs hz P => ?_)
  have hz : H.size = ad zqc43.length := hz
  have P : zP D zqc43 ad cA A zuc49 s H _ := P
  refine lv_aload_n hx hb dX0_init_17 rfl (lv_at hl 0 rfl) ?_
  refine lv_bipush (v := 6) hx hb dX0_init_18 (by decide) ?_
  refine zk_newa C P hz (hAd.s 34 (by decide)) (ty := .long) rfl 1 rfl (fun h => h) za_long 6 (by first | rfl | (show _ = _; simp only [zcel, zClr_1, zClr_2, zk_arr]; rfl)) (fun _ => rfl) (by decide) (by decide) (by decide) (by decide) (by decide) dX0_init_20 (fun H hz P => ?_)
  have hz : H.size = ad zqc44.length := hz
  have P : zP D zqc44 ad cA A zuc50 s H _ := P
  refine W.eq (g2 := F0 m 22 ls [.ref (ad 34), .ref (ad 32)]) rfl ?_
  refine zk_putR C hin P hz (ci := 0) rfl iX0 tyX0 tyX0_ok nmX0 2 (by decide) rfl rfl kF0_19 (o := 32) (q := 34) (fs := [.inl 0, .inr 33, .inl 2, .inl 2, .inl 2, .inl 1, .inl 1, .inl 1, .inl 1]) rfl (by decide) rfl rfl dX0_init_22 (fun H locs hz P => ?_)
  have hz : H.size = ad zqc45.length := hz
  have P : zP D zqc45 ad cA A zuc50 s H _ := P
  refine lv_aload_n hx hb dX0_init_25 rfl (lv_at hl 0 rfl) ?_
  refine lv_bipush (v := 6) hx hb dX0_init_26 (by decide) ?_
  refine zk_newa C P hz (hAd.s 35 (by decide)) (ty := .long) rfl 1 rfl (fun h => h) za_long 6 (by first | rfl | (show _ = _; simp only [zcel, zClr_1, zClr_2, zk_arr]; rfl)) (fun _ => rfl) (by decide) (by decide) (by decide) (by decide) (by decide) dX0_init_28 (fun H hz P => ?_)
  have hz : H.size = ad zqc46.length := hz
  have P : zP D zqc46 ad cA A zuc51 s H _ := P
  refine W.eq (g2 := F0 m 30 ls [.ref (ad 35), .ref (ad 32)]) rfl ?_
  refine zk_putR C hin P hz (ci := 0) rfl iX0 tyX0 tyX0_ok nmX0 3 (by decide) rfl rfl kF0_23 (o := 32) (q := 35) (fs := [.inl 0, .inr 33, .inr 34, .inl 2, .inl 2, .inl 1, .inl 1, .inl 1, .inl 1]) rfl (by decide) rfl rfl dX0_init_30 (fun H locs hz P => ?_)
  have hz : H.size = ad zqc47.length := hz
  have P : zP D zqc47 ad cA A zuc51 s H _ := P
  refine lv_aload_n hx hb dX0_init_33 rfl (lv_at hl 0 rfl) ?_
  refine lv_bipush (v := 6) hx hb dX0_init_34 (by decide) ?_
  refine zk_newa C P hz (hAd.s 36 (by decide)) (ty := .int) rfl 0 rfl (fun h => h) za_int 6 (by first | rfl | (show _ = _; simp only [zcel, zClr_1, zClr_2, zk_arr]; rfl)) (fun _ => rfl) (by decide) (by decide) (by decide) (by decide) (by decide) dX0_init_36 (fun H hz P => ?_)
  have hz : H.size = ad zqc48.length := hz
  have P : zP D zqc48 ad cA A zuc52 s H _ := P
  refine W.eq (g2 := F0 m 38 ls [.ref (ad 36), .ref (ad 32)]) rfl ?_
  refine zk_putR C hin P hz (ci := 0) rfl iX0 tyX0 tyX0_ok nmX0 4 (by decide) rfl rfl kF0_26 (o := 32) (q := 36) (fs := [.inl 0, .inr 33, .inr 34, .inr 35, .inl 2, .inl 1, .inl 1, .inl 1, .inl 1]) rfl (by decide) rfl rfl dX0_init_38 (fun H locs hz P => ?_)
  have hz : H.size = ad zqc49.length := hz
  have P : zP D zqc49 ad cA A zuc52 s H _ := P
  refine lv_aload_n hx hb dX0_init_41 rfl (lv_at hl 0 rfl) ?_
  refine lv_lconst (v := 1) hx hb dX0_init_42 (by decide) ?_
  refine zk_putL C P hz (ci := 0) rfl iX0 tyX0 tyX0_ok nmX0 5 (by decide) rfl rfl kF0_29 (o := 32) (fs := [.inl 0, .inr 33, .inr 34, .inr 35, .inr 36, .inl 1, .inl 1, .inl 1, .inl 1]) rfl rfl dX0_init_43 rfl rfl (fun H locs hz P => ?_)
  have hz : H.size = ad zqc49.length := hz
  have P : zP D zqc49 ad cA A zuc53 s H _ := P
  refine lv_aload_n hx hb dX0_init_46 rfl (lv_at hl 0 rfl) ?_
  refine lv_lconst (v := 1) hx hb dX0_init_47 (by decide) ?_
  refine zk_putL C P hz (ci := 0) rfl iX0 tyX0 tyX0_ok nmX0 6 (by decide) rfl rfl kF0_33 (o := 32) (fs := [.inl 0, .inr 33, .inr 34, .inr 35, .inr 36, .inl 1, .inl 1, .inl 1, .inl 1]) rfl rfl dX0_init_48 rfl rfl (fun H locs hz P => ?_)
  have hz : H.size = ad zqc49.length := hz
  have P : zP D zqc49 ad cA A zuc54 s H _ := P
  refine lv_aload_n hx hb dX0_init_51 rfl (lv_at hl 0 rfl) ?_
  refine lv_lconst (v := 1) hx hb dX0_init_52 (by decide) ?_
  refine zk_putL C P hz (ci := 0) rfl iX0 tyX0 tyX0_ok nmX0 7 (by decide) rfl rfl kF0_36 (o := 32) (fs := [.inl 0, .inr 33, .inr 34, .inr 35, .inr 36, .inl 1, .inl 1, .inl 1, .inl 1]) rfl rfl dX0_init_53 rfl rfl (fun H locs hz P => ?_)
  have hz : H.size = ad zqc49.length := hz
  have P : zP D zqc49 ad cA A zuc55 s H _ := P
  refine lv_aload_n hx hb dX0_init_56 rfl (lv_at hl 0 rfl) ?_
  refine lv_lconst (v := 1) hx hb dX0_init_57 (by decide) ?_
  refine zk_putL C P hz (ci := 0) rfl iX0 tyX0 tyX0_ok nmX0 8 (by decide) rfl rfl kF0_39 (o := 32) (fs := [.inl 0, .inr 33, .inr 34, .inr 35, .inr 36, .inl 1, .inl 1, .inl 1, .inl 1]) rfl rfl dX0_init_58 rfl rfl (fun H locs hz P => ?_)
  have hz : H.size = ad zqc49.length := hz
  have P : zP D zqc49 ad cA A zuc56 s H _ := P
  exact zk_ret C P hz (by decide) (by decide) dX0_init_61
set_option maxRecDepth 100000 in
theorem mk5_c37 {l : Launch} {D : va_G} {cA : Nat → ClassId} {ad : Nat → Nat} {h0 : Nat} (hAd : zAd h0 ad) : zMk l yX5_init cX5_init 1 1 20 8 39 D ad cA zqc51 zqc61 zuc57 zuc64 [.ref (ad 37)] := by
  refine zk_enter (by decide +kernel) (Nat.le_of_ble_eq_true rfl) rfl (fun p e s m below meth c A C hin P hz ls hl => ?_)
  have hx := C.1
  have hb := C.2.1
  have hl : lv_has ls 1 [(0, .ref (ad 37))] := hl
  refine lv_aload_n hx hb dX5_init_0 rfl (lv_at hl 0 rfl) ?_
  refine zk_obj C zo5_3 zo_i zo_c hl.1 dX5_init_1 (by decide) (Nat.le_of_ble_eq_true rfl) ?_
  refine lv_aload_n hx hb dX5_init_4 rfl (lv_at hl 0 rfl) ?_
  refine lv_iconst (v := 0) hx hb dX5_init_5 (by decide) ?_
  refine zk_putI C P hz (ci := 5) rfl iX5 tyX5 tyX5_ok nmX5 0 (by decide) rfl rfl kF5_9 (o := 37) (fs := [.inl 0, .inl 0, .inl 2, .inl 2, .inl 2, .inl 2, .inl 2]) rfl rfl dX5_init_6 rfl rfl (fun H locs hz P => ?_)
  have hz : H.size = ad zqc51.length := hz
  have P : zP D zqc51 ad cA A zuc58 s H _ := P
  refine lv_aload_n hx hb dX5_init_9 rfl (lv_at hl 0 rfl) ?_
  refine lv_iconst (v := 0) hx hb dX5_init_10 (by decide) ?_
  refine zk_putI C P hz (ci := 5) rfl iX5 tyX5 tyX5_ok nmX5 1 (by decide) rfl rfl kF5_15 (o := 37) (fs := [.inl 0, .inl 0, .inl 2, .inl 2, .inl 2, .inl 2, .inl 2]) rfl rfl dX5_init_11 rfl rfl (fun H locs hz P => ?_)
  have hz : H.size = ad zqc51.length := hz
  have P : zP D zqc51 ad cA A zuc59 s H _ := P
  refine lv_aload_n hx hb dX5_init_14 rfl (lv_at hl 0 rfl) ?_
  refine lv_bipush (v := 6) hx hb dX5_init_15 (by decide) ?_
  refine zk_newa C P hz (hAd.s 38 (by decide)) (ty := .int) rfl 0 rfl (fun h => h) za_int 6 (by first | rfl | (show _ = _; simp only [zcel, zClr_1, zClr_2, zk_arr]; rfl)) (fun _ => rfl) (by decide) (by decide) (by decide) (by decide) (by decide) dX5_init_17 (fun H hz P => ?_)
  have hz : H.size = ad zqc52.length := hz
  have P : zP D zqc52 ad cA A zuc60 s H _ := P
  refine W.eq (g2 := F0 m 19 ls [.ref (ad 38), .ref (ad 37)]) rfl ?_
  refine zk_putR C hin P hz (ci := 5) rfl iX5 tyX5 tyX5_ok nmX5 2 (by decide) rfl rfl kF5_18 (o := 37) (q := 38) (fs := [.inl 0, .inl 0, .inl 2, .inl 2, .inl 2, .inl 2, .inl 2]) rfl (by decide) rfl rfl dX5_init_19 (fun H locs hz P => ?_)
  have hz : H.size = ad zqc53.length := hz
  have P : zP D zqc53 ad cA A zuc60 s H _ := P
  refine lv_aload_n hx hb dX5_init_22 rfl (lv_at hl 0 rfl) ?_
  refine lv_iconst (v := 3) hx hb dX5_init_23 (by decide) ?_
  refine zk_newa C P hz (hAd.s 39 (by decide)) (ty := .int) rfl 0 rfl (fun h => h) za_int 3 (by first | rfl | (show _ = _; simp only [zcel, zClr_1, zClr_2, zk_arr]; rfl)) (fun _ => rfl) (by decide) (by decide) (by decide) (by decide) (by decide) dX5_init_24 (fun H hz P => ?_)
  have hz : H.size = ad zqc54.length := hz
  have P : zP D zqc54 ad cA A zuc61 s H _ := P
  refine W.eq (g2 := F0 m 26 ls [.ref (ad 39), .ref (ad 37)]) rfl ?_
  refine zk_putR C hin P hz (ci := 5) rfl iX5 tyX5 tyX5_ok nmX5 3 (by decide) rfl rfl kF5_22 (o := 37) (q := 39) (fs := [.inl 0, .inl 0, .inr 38, .inl 2, .inl 2, .inl 2, .inl 2]) rfl (by decide) rfl rfl dX5_init_26 (fun H locs hz P => ?_)
  have hz : H.size = ad zqc55.length := hz
  have P : zP D zqc55 ad cA A zuc61 s H _ := P
  refine lv_aload_n hx hb dX5_init_29 rfl (lv_at hl 0 rfl) ?_
  refine lv_iconst (v := 3) hx hb dX5_init_30 (by decide) ?_
  refine lv_bipush (v := 6) hx hb dX5_init_31 (by decide) ?_
  refine zk_mna C P hz hAd 3 6 (by decide) zcl5_25 za_int (by decide) (by decide) (by decide) (by decide) (by decide) (by decide) (by decide) (by decide) (by decide) dX5_init_33 (fun H hz P => ?_)
  have hz : H.size = ad zqc56.length := hz
  have P : zP D zqc56 ad cA A zuc62 s H _ := P
  refine W.eq (g2 := F0 m 37 ls [.ref (ad 40), .ref (ad 37)]) rfl ?_
  refine zk_putR C hin P hz (ci := 5) rfl iX5 tyX5 tyX5_ok nmX5 4 (by decide) rfl rfl kF5_27 (o := 37) (q := 40) (fs := [.inl 0, .inl 0, .inr 38, .inr 39, .inl 2, .inl 2, .inl 2]) rfl (by decide) rfl rfl dX5_init_37 (fun H locs hz P => ?_)
  have hz : H.size = ad zqc57.length := hz
  have P : zP D zqc57 ad cA A zuc62 s H _ := P
  refine lv_aload_n hx hb dX5_init_40 rfl (lv_at hl 0 rfl) ?_
  refine lv_iconst (v := 3) hx hb dX5_init_41 (by decide) ?_
  refine zk_newa C P hz (hAd.s 44 (by decide)) (ty := .long) rfl 1 rfl (fun h => h) za_long 3 (by first | rfl | (show _ = _; simp only [zcel, zClr_1, zClr_2, zk_arr]; rfl)) (fun _ => rfl) (by decide) (by decide) (by decide) (by decide) (by decide) dX5_init_42 (fun H hz P => ?_)
  have hz : H.size = ad zqc58.length := hz
  have P : zP D zqc58 ad cA A zuc63 s H _ := P
  refine W.eq (g2 := F0 m 44 ls [.ref (ad 44), .ref (ad 37)]) rfl ?_
  refine zk_putR C hin P hz (ci := 5) rfl iX5 tyX5 tyX5_ok nmX5 5 (by decide) rfl rfl kF5_30 (o := 37) (q := 44) (fs := [.inl 0, .inl 0, .inr 38, .inr 39, .inr 40, .inl 2, .inl 2]) rfl (by decide) rfl rfl dX5_init_44 (fun H locs hz P => ?_)
  have hz : H.size = ad zqc59.length := hz
  have P : zP D zqc59 ad cA A zuc63 s H _ := P
  refine lv_aload_n hx hb dX5_init_47 rfl (lv_at hl 0 rfl) ?_
  refine lv_bipush (v := 6) hx hb dX5_init_48 (by decide) ?_
  refine zk_newa C P hz (hAd.s 45 (by decide)) (ty := .int) rfl 0 rfl (fun h => h) za_int 6 (by first | rfl | (show _ = _; simp only [zcel, zClr_1, zClr_2, zk_arr]; rfl)) (fun _ => rfl) (by decide) (by decide) (by decide) (by decide) (by decide) dX5_init_50 (fun H hz P => ?_)
  have hz : H.size = ad zqc60.length := hz
  have P : zP D zqc60 ad cA A zuc64 s H _ := P
  refine W.eq (g2 := F0 m 52 ls [.ref (ad 45), .ref (ad 37)]) rfl ?_
  refine zk_putR C hin P hz (ci := 5) rfl iX5 tyX5 tyX5_ok nmX5 6 (by decide) rfl rfl kF5_34 (o := 37) (q := 45) (fs := [.inl 0, .inl 0, .inr 38, .inr 39, .inr 40, .inr 44, .inl 2]) rfl (by decide) rfl rfl dX5_init_52 (fun H locs hz P => ?_)
  have hz : H.size = ad zqc61.length := hz
  have P : zP D zqc61 ad cA A zuc64 s H _ := P
  exact zk_ret C P hz (by decide) (by decide) dX5_init_55
set_option maxRecDepth 100000 in
theorem mk5_c46 {l : Launch} {D : va_G} {cA : Nat → ClassId} {ad : Nat → Nat} {h0 : Nat} (hAd : zAd h0 ad) : zMk l yX5_init cX5_init 1 1 20 8 39 D ad cA zqc63 zqc73 zuc65 zuc72 [.ref (ad 46)] := by
  refine zk_enter (by decide +kernel) (Nat.le_of_ble_eq_true rfl) rfl (fun p e s m below meth c A C hin P hz ls hl => ?_)
  have hx := C.1
  have hb := C.2.1
  have hl : lv_has ls 1 [(0, .ref (ad 46))] := hl
  refine lv_aload_n hx hb dX5_init_0 rfl (lv_at hl 0 rfl) ?_
  refine zk_obj C zo5_3 zo_i zo_c hl.1 dX5_init_1 (by decide) (Nat.le_of_ble_eq_true rfl) ?_
  refine lv_aload_n hx hb dX5_init_4 rfl (lv_at hl 0 rfl) ?_
  refine lv_iconst (v := 0) hx hb dX5_init_5 (by decide) ?_
  refine zk_putI C P hz (ci := 5) rfl iX5 tyX5 tyX5_ok nmX5 0 (by decide) rfl rfl kF5_9 (o := 46) (fs := [.inl 0, .inl 0, .inl 2, .inl 2, .inl 2, .inl 2, .inl 2]) rfl rfl dX5_init_6 rfl rfl (fun H locs hz P => ?_)
  have hz : H.size = ad zqc63.length := hz
  have P : zP D zqc63 ad cA A zuc66 s H _ := P
  refine lv_aload_n hx hb dX5_init_9 rfl (lv_at hl 0 rfl) ?_
  refine lv_iconst (v := 0) hx hb dX5_init_10 (by decide) ?_
  refine zk_putI C P hz (ci := 5) rfl iX5 tyX5 tyX5_ok nmX5 1 (by decide) rfl rfl kF5_15 (o := 46) (fs := [.inl 0, .inl 0, .inl 2, .inl 2, .inl 2, .inl 2, .inl 2]) rfl rfl dX5_init_11 rfl rfl (fun H locs hz P => ?_)
  have hz : H.size = ad zqc63.length := hz
  have P : zP D zqc63 ad cA A zuc67 s H _ := P
  refine lv_aload_n hx hb dX5_init_14 rfl (lv_at hl 0 rfl) ?_
  refine lv_bipush (v := 6) hx hb dX5_init_15 (by decide) ?_
  refine zk_newa C P hz (hAd.s 47 (by decide)) (ty := .int) rfl 0 rfl (fun h => h) za_int 6 (by first | rfl | (show _ = _; simp only [zcel, zClr_1, zClr_2, zk_arr]; rfl)) (fun _ => rfl) (by decide) (by decide) (by decide) (by decide) (by decide) dX5_init_17 (fun H hz P => ?_)
  have hz : H.size = ad zqc64.length := hz
  have P : zP D zqc64 ad cA A zuc68 s H _ := P
  refine W.eq (g2 := F0 m 19 ls [.ref (ad 47), .ref (ad 46)]) rfl ?_
  refine zk_putR C hin P hz (ci := 5) rfl iX5 tyX5 tyX5_ok nmX5 2 (by decide) rfl rfl kF5_18 (o := 46) (q := 47) (fs := [.inl 0, .inl 0, .inl 2, .inl 2, .inl 2, .inl 2, .inl 2]) rfl (by decide) rfl rfl dX5_init_19 (fun H locs hz P => ?_)
  have hz : H.size = ad zqc65.length := hz
  have P : zP D zqc65 ad cA A zuc68 s H _ := P
  refine lv_aload_n hx hb dX5_init_22 rfl (lv_at hl 0 rfl) ?_
  refine lv_iconst (v := 3) hx hb dX5_init_23 (by decide) ?_
  refine zk_newa C P hz (hAd.s 48 (by decide)) (ty := .int) rfl 0 rfl (fun h => h) za_int 3 (by first | rfl | (show _ = _; simp only [zcel, zClr_1, zClr_2, zk_arr]; rfl)) (fun _ => rfl) (by decide) (by decide) (by decide) (by decide) (by decide) dX5_init_24 (fun H hz P => ?_)
  have hz : H.size = ad zqc66.length := hz
  have P : zP D zqc66 ad cA A zuc69 s H _ := P
  refine W.eq (g2 := F0 m 26 ls [.ref (ad 48), .ref (ad 46)]) rfl ?_
  refine zk_putR C hin P hz (ci := 5) rfl iX5 tyX5 tyX5_ok nmX5 3 (by decide) rfl rfl kF5_22 (o := 46) (q := 48) (fs := [.inl 0, .inl 0, .inr 47, .inl 2, .inl 2, .inl 2, .inl 2]) rfl (by decide) rfl rfl dX5_init_26 (fun H locs hz P => ?_)
  have hz : H.size = ad zqc67.length := hz
  have P : zP D zqc67 ad cA A zuc69 s H _ := P
  refine lv_aload_n hx hb dX5_init_29 rfl (lv_at hl 0 rfl) ?_
  refine lv_iconst (v := 3) hx hb dX5_init_30 (by decide) ?_
  refine lv_bipush (v := 6) hx hb dX5_init_31 (by decide) ?_
  refine zk_mna C P hz hAd 3 6 (by decide) zcl5_25 za_int (by decide) (by decide) (by decide) (by decide) (by decide) (by decide) (by decide) (by decide) (by decide) dX5_init_33 (fun H hz P => ?_)
  have hz : H.size = ad zqc68.length := hz
  have P : zP D zqc68 ad cA A zuc70 s H _ := P
  refine W.eq (g2 := F0 m 37 ls [.ref (ad 49), .ref (ad 46)]) rfl ?_
  refine zk_putR C hin P hz (ci := 5) rfl iX5 tyX5 tyX5_ok nmX5 4 (by decide) rfl rfl kF5_27 (o := 46) (q := 49) (fs := [.inl 0, .inl 0, .inr 47, .inr 48, .inl 2, .inl 2, .inl 2]) rfl (by decide) rfl rfl dX5_init_37 (fun H locs hz P => ?_)
  have hz : H.size = ad zqc69.length := hz
  have P : zP D zqc69 ad cA A zuc70 s H _ := P
  refine lv_aload_n hx hb dX5_init_40 rfl (lv_at hl 0 rfl) ?_
  refine lv_iconst (v := 3) hx hb dX5_init_41 (by decide) ?_
  refine zk_newa C P hz (hAd.s 53 (by decide)) (ty := .long) rfl 1 rfl (fun h => h) za_long 3 (by first | rfl | (show _ = _; simp only [zcel, zClr_1, zClr_2, zk_arr]; rfl)) (fun _ => rfl) (by decide) (by decide) (by decide) (by decide) (by decide) dX5_init_42 (fun H hz P => ?_)
  have hz : H.size = ad zqc70.length := hz
  have P : zP D zqc70 ad cA A zuc71 s H _ := P
  refine W.eq (g2 := F0 m 44 ls [.ref (ad 53), .ref (ad 46)]) rfl ?_
  refine zk_putR C hin P hz (ci := 5) rfl iX5 tyX5 tyX5_ok nmX5 5 (by decide) rfl rfl kF5_30 (o := 46) (q := 53) (fs := [.inl 0, .inl 0, .inr 47, .inr 48, .inr 49, .inl 2, .inl 2]) rfl (by decide) rfl rfl dX5_init_44 (fun H locs hz P => ?_)
  have hz : H.size = ad zqc71.length := hz
  have P : zP D zqc71 ad cA A zuc71 s H _ := P
  refine lv_aload_n hx hb dX5_init_47 rfl (lv_at hl 0 rfl) ?_
  refine lv_bipush (v := 6) hx hb dX5_init_48 (by decide) ?_
  refine zk_newa C P hz (hAd.s 54 (by decide)) (ty := .int) rfl 0 rfl (fun h => h) za_int 6 (by first | rfl | (show _ = _; simp only [zcel, zClr_1, zClr_2, zk_arr]; rfl)) (fun _ => rfl) (by decide) (by decide) (by decide) (by decide) (by decide) dX5_init_50 (fun H hz P => ?_)
  have hz : H.size = ad zqc72.length := hz
  have P : zP D zqc72 ad cA A zuc72 s H _ := P
  refine W.eq (g2 := F0 m 52 ls [.ref (ad 54), .ref (ad 46)]) rfl ?_
  refine zk_putR C hin P hz (ci := 5) rfl iX5 tyX5 tyX5_ok nmX5 6 (by decide) rfl rfl kF5_34 (o := 46) (q := 54) (fs := [.inl 0, .inl 0, .inr 47, .inr 48, .inr 49, .inr 53, .inl 2]) rfl (by decide) rfl rfl dX5_init_52 (fun H locs hz P => ?_)
  have hz : H.size = ad zqc73.length := hz
  have P : zP D zqc73 ad cA A zuc72 s H _ := P
  exact zk_ret C P hz (by decide) (by decide) dX5_init_55
set_option maxRecDepth 100000 in
theorem mk5_c55 {l : Launch} {D : va_G} {cA : Nat → ClassId} {ad : Nat → Nat} {h0 : Nat} (hAd : zAd h0 ad) : zMk l yX5_init cX5_init 1 1 20 8 39 D ad cA zqc75 zqc85 zuc73 zuc80 [.ref (ad 55)] := by
  refine zk_enter (by decide +kernel) (Nat.le_of_ble_eq_true rfl) rfl (fun p e s m below meth c A C hin P hz ls hl => ?_)
  have hx := C.1
  have hb := C.2.1
  have hl : lv_has ls 1 [(0, .ref (ad 55))] := hl
  refine lv_aload_n hx hb dX5_init_0 rfl (lv_at hl 0 rfl) ?_
  refine zk_obj C zo5_3 zo_i zo_c hl.1 dX5_init_1 (by decide) (Nat.le_of_ble_eq_true rfl) ?_
  refine lv_aload_n hx hb dX5_init_4 rfl (lv_at hl 0 rfl) ?_
  refine lv_iconst (v := 0) hx hb dX5_init_5 (by decide) ?_
  refine zk_putI C P hz (ci := 5) rfl iX5 tyX5 tyX5_ok nmX5 0 (by decide) rfl rfl kF5_9 (o := 55) (fs := [.inl 0, .inl 0, .inl 2, .inl 2, .inl 2, .inl 2, .inl 2]) rfl rfl dX5_init_6 rfl rfl (fun H locs hz P => ?_)
  have hz : H.size = ad zqc75.length := hz
  have P : zP D zqc75 ad cA A zuc74 s H _ := P
  refine lv_aload_n hx hb dX5_init_9 rfl (lv_at hl 0 rfl) ?_
  refine lv_iconst (v := 0) hx hb dX5_init_10 (by decide) ?_
  refine zk_putI C P hz (ci := 5) rfl iX5 tyX5 tyX5_ok nmX5 1 (by decide) rfl rfl kF5_15 (o := 55) (fs := [.inl 0, .inl 0, .inl 2, .inl 2, .inl 2, .inl 2, .inl 2]) rfl rfl dX5_init_11 rfl rfl (fun H locs hz P => ?_)
  have hz : H.size = ad zqc75.length := hz
  have P : zP D zqc75 ad cA A zuc75 s H _ := P
  refine lv_aload_n hx hb dX5_init_14 rfl (lv_at hl 0 rfl) ?_
  refine lv_bipush (v := 6) hx hb dX5_init_15 (by decide) ?_
  refine zk_newa C P hz (hAd.s 56 (by decide)) (ty := .int) rfl 0 rfl (fun h => h) za_int 6 (by first | rfl | (show _ = _; simp only [zcel, zClr_1, zClr_2, zk_arr]; rfl)) (fun _ => rfl) (by decide) (by decide) (by decide) (by decide) (by decide) dX5_init_17 (fun H hz P => ?_)
  have hz : H.size = ad zqc76.length := hz
  have P : zP D zqc76 ad cA A zuc76 s H _ := P
  refine W.eq (g2 := F0 m 19 ls [.ref (ad 56), .ref (ad 55)]) rfl ?_
  refine zk_putR C hin P hz (ci := 5) rfl iX5 tyX5 tyX5_ok nmX5 2 (by decide) rfl rfl kF5_18 (o := 55) (q := 56) (fs := [.inl 0, .inl 0, .inl 2, .inl 2, .inl 2, .inl 2, .inl 2]) rfl (by decide) rfl rfl dX5_init_19 (fun H locs hz P => ?_)
  have hz : H.size = ad zqc77.length := hz
  have P : zP D zqc77 ad cA A zuc76 s H _ := P
  refine lv_aload_n hx hb dX5_init_22 rfl (lv_at hl 0 rfl) ?_
  refine lv_iconst (v := 3) hx hb dX5_init_23 (by decide) ?_
  refine zk_newa C P hz (hAd.s 57 (by decide)) (ty := .int) rfl 0 rfl (fun h => h) za_int 3 (by first | rfl | (show _ = _; simp only [zcel, zClr_1, zClr_2, zk_arr]; rfl)) (fun _ => rfl) (by decide) (by decide) (by decide) (by decide) (by decide) dX5_init_24 (fun H hz P => ?_)
  have hz : H.size = ad zqc78.length := hz
  have P : zP D zqc78 ad cA A zuc77 s H _ := P
  refine W.eq (g2 := F0 m 26 ls [.ref (ad 57), .ref (ad 55)]) rfl ?_
  refine zk_putR C hin P hz (ci := 5) rfl iX5 tyX5 tyX5_ok nmX5 3 (by decide) rfl rfl kF5_22 (o := 55) (q := 57) (fs := [.inl 0, .inl 0, .inr 56, .inl 2, .inl 2, .inl 2, .inl 2]) rfl (by decide) rfl rfl dX5_init_26 (fun H locs hz P => ?_)
  have hz : H.size = ad zqc79.length := hz
  have P : zP D zqc79 ad cA A zuc77 s H _ := P
  refine lv_aload_n hx hb dX5_init_29 rfl (lv_at hl 0 rfl) ?_
  refine lv_iconst (v := 3) hx hb dX5_init_30 (by decide) ?_
  refine lv_bipush (v := 6) hx hb dX5_init_31 (by decide) ?_
  refine zk_mna C P hz hAd 3 6 (by decide) zcl5_25 za_int (by decide) (by decide) (by decide) (by decide) (by decide) (by decide) (by decide) (by decide) (by decide) dX5_init_33 (fun H hz P => ?_)
  have hz : H.size = ad zqc80.length := hz
  have P : zP D zqc80 ad cA A zuc78 s H _ := P
  refine W.eq (g2 := F0 m 37 ls [.ref (ad 58), .ref (ad 55)]) rfl ?_
  refine zk_putR C hin P hz (ci := 5) rfl iX5 tyX5 tyX5_ok nmX5 4 (by decide) rfl rfl kF5_27 (o := 55) (q := 58) (fs := [.inl 0, .inl 0, .inr 56, .inr 57, .inl 2, .inl 2, .inl 2]) rfl (by decide) rfl rfl dX5_init_37 (fun H locs hz P => ?_)
  have hz : H.size = ad zqc81.length := hz
  have P : zP D zqc81 ad cA A zuc78 s H _ := P
  refine lv_aload_n hx hb dX5_init_40 rfl (lv_at hl 0 rfl) ?_
  refine lv_iconst (v := 3) hx hb dX5_init_41 (by decide) ?_
  refine zk_newa C P hz (hAd.s 62 (by decide)) (ty := .long) rfl 1 rfl (fun h => h) za_long 3 (by first | rfl | (show _ = _; simp only [zcel, zClr_1, zClr_2, zk_arr]; rfl)) (fun _ => rfl) (by decide) (by decide) (by decide) (by decide) (by decide) dX5_init_42 (fun H hz P => ?_)
  have hz : H.size = ad zqc82.length := hz
  have P : zP D zqc82 ad cA A zuc79 s H _ := P
  refine W.eq (g2 := F0 m 44 ls [.ref (ad 62), .ref (ad 55)]) rfl ?_
  refine zk_putR C hin P hz (ci := 5) rfl iX5 tyX5 tyX5_ok nmX5 5 (by decide) rfl rfl kF5_30 (o := 55) (q := 62) (fs := [.inl 0, .inl 0, .inr 56, .inr 57, .inr 58, .inl 2, .inl 2]) rfl (by decide) rfl rfl dX5_init_44 (fun H locs hz P => ?_)
  have hz : H.size = ad zqc83.length := hz
  have P : zP D zqc83 ad cA A zuc79 s H _ := P
  refine lv_aload_n hx hb dX5_init_47 rfl (lv_at hl 0 rfl) ?_
  refine lv_bipush (v := 6) hx hb dX5_init_48 (by decide) ?_
  refine zk_newa C P hz (hAd.s 63 (by decide)) (ty := .int) rfl 0 rfl (fun h => h) za_int 6 (by first | rfl | (show _ = _; simp only [zcel, zClr_1, zClr_2, zk_arr]; rfl)) (fun _ => rfl) (by decide) (by decide) (by decide) (by decide) (by decide) dX5_init_50 (fun H hz P => ?_)
  have hz : H.size = ad zqc84.length := hz
  have P : zP D zqc84 ad cA A zuc80 s H _ := P
  refine W.eq (g2 := F0 m 52 ls [.ref (ad 63), .ref (ad 55)]) rfl ?_
  refine zk_putR C hin P hz (ci := 5) rfl iX5 tyX5 tyX5_ok nmX5 6 (by decide) rfl rfl kF5_34 (o := 55) (q := 63) (fs := [.inl 0, .inl 0, .inr 56, .inr 57, .inr 58, .inr 62, .inl 2]) rfl (by decide) rfl rfl dX5_init_52 (fun H locs hz P => ?_)
  have hz : H.size = ad zqc85.length := hz
  have P : zP D zqc85 ad cA A zuc80 s H _ := P
  exact zk_ret C P hz (by decide) (by decide) dX5_init_55
set_option maxRecDepth 100000 in
theorem mk6_c0 {l : Launch} {D : va_G} {cA : Nat → ClassId} {ad : Nat → Nat} {h0 : Nat} (hAd : zAd h0 ad) : zMk l yX6_init cX6_init 1 3 60 65 1043 D ad cA zqc0 zqc90 zuc0 zuc84 [.ref (ad 0)] := by
  refine zk_enter (by decide +kernel) (Nat.le_of_ble_eq_true rfl) rfl (fun p e s m below meth c A C hin P hz ls hl => ?_)
  have hx := C.1
  have hb := C.2.1
  have hl : lv_has ls 1 [(0, .ref (ad 0))] := hl
  refine lv_aload_n hx hb dX6_init_0 rfl (lv_at hl 0 rfl) ?_
  refine zk_obj C zo6_3 zo_i zo_c hl.1 dX6_init_1 (by decide) (Nat.le_of_ble_eq_true rfl) ?_
  refine lv_aload_n hx hb dX6_init_4 rfl (lv_at hl 0 rfl) ?_
  refine zk_new C P hz (hAd.s 1 (by decide)) (ci := 2) rfl iX2 tyX2 tyX2_ok zcl6_9 zins2 zin2 [.inl 2, .inl 2, .inl 2] (fun j hj => by rcases (show j = 0 ∨ j = 1 ∨ j = 2 by omega) with rfl | rfl | rfl <;> rfl) (by decide) (by decide) dX6_init_5 (fun H hz P => ?_)
  have hz : H.size = ad zqc1.length := hz
  have P : zP D zqc1 ad cA A zuc1 s H _ := P
  refine W.eq (g2 := F0 m 8 ls [.ref (ad 1), .ref (ad 0)]) rfl ?_
  refine lv_dup hx hb dX6_init_8 rfl ?_
  refine zk_call C P hz (mk2_c1 hAd) zi6_11 zii2 zin2 zic2 rfl (by decide +kernel) (by decide) hl.1 (Nat.le_of_ble_eq_true rfl) dX6_init_9 (by decide) (fun H locs hz P => ?_)
  have hz : H.size = ad zqc7.length := hz
  have P : zP D zqc7 ad cA A zuc12 s H _ := P
  refine zk_putR C hin P hz (ci := 6) rfl iX6 tyX6 tyX6_ok nmX6 0 (by decide) rfl rfl kF6_12 (o := 0) (q := 1) (fs := [.inl 2, .inl 2, .inl 2, .inl 2, .inl 2, .inl 2, .inl 2, .inl 2, .inl 2, .inl 2, .inl 0, .inl 0]) rfl (by decide) rfl rfl dX6_init_12 (fun H locs hz P => ?_)
  have hz : H.size = ad zqc8.length := hz
  have P : zP D zqc8 ad cA A zuc12 s H _ := P
  refine lv_aload_n hx hb dX6_init_15 rfl (lv_at hl 0 rfl) ?_
  refine zk_new C P hz (hAd.s 13 (by decide)) (ci := 3) rfl iX3 tyX3 tyX3_ok zcl6_16 zins3 zin3 [.inl 2, .inl 0, .inl 0, .inl 0, .inl 0, .inl 0, .inl 0, .inl 0] (fun j hj => by rcases (show j = 0 ∨ j = 1 ∨ j = 2 ∨ j = 3 ∨ j = 4 ∨ j = 5 ∨ j = 6 ∨ j = 7 by omega) with rfl | rfl | rfl | rfl | rfl | rfl | rfl | rfl <;> rfl) (by decide) (by decide) dX6_init_16 (fun H hz P => ?_)
  have hz : H.size = ad zqc9.length := hz
  have P : zP D zqc9 ad cA A zuc13 s H _ := P
  refine W.eq (g2 := F0 m 19 ls [.ref (ad 13), .ref (ad 0)]) rfl ?_
  refine lv_dup hx hb dX6_init_19 rfl ?_
  refine zk_call C P hz (mk3_c13 hAd) zi6_18 zii3 zin3 zic3 rfl (by decide +kernel) (by decide) hl.1 (Nat.le_of_ble_eq_true rfl) dX6_init_20 (by decide) (fun H locs hz P => ?_)
  have hz : H.size = ad zqc11.length := hz
  have P : zP D zqc11 ad cA A zuc21 s H _ := P
  refine zk_putR C hin P hz (ci := 6) rfl iX6 tyX6 tyX6_ok nmX6 1 (by decide) rfl rfl kF6_19 (o := 0) (q := 13) (fs := [.inr 1, .inl 2, .inl 2, .inl 2, .inl 2, .inl 2, .inl 2, .inl 2, .inl 2, .inl 2, .inl 0, .inl 0]) rfl (by decide) rfl rfl dX6_init_23 (fun H locs hz P => ?_)
  have hz : H.size = ad zqc12.length := hz
  have P : zP D zqc12 ad cA A zuc21 s H _ := P
  refine lv_aload_n hx hb dX6_init_26 rfl (lv_at hl 0 rfl) ?_
  refine zk_new C P hz (hAd.s 15 (by decide)) (ci := 4) rfl iX4 tyX4 tyX4_ok zcl6_23 zins4 zin4 [.inl 2, .inl 0] (fun j hj => by rcases (show j = 0 ∨ j = 1 by omega) with rfl | rfl <;> rfl) (by decide) (by decide) dX6_init_27 (fun H hz P => ?_)
  have hz : H.size = ad zqc13.length := hz
  have P : zP D zqc13 ad cA A zuc22 s H _ := P
  refine W.eq (g2 := F0 m 30 ls [.ref (ad 15), .ref (ad 0)]) rfl ?_
  refine lv_dup hx hb dX6_init_30 rfl ?_
  refine zk_call C P hz (mk4_c15 hAd) zi6_25 zii4 zin4 zic4 rfl (by decide +kernel) (by decide) hl.1 (Nat.le_of_ble_eq_true rfl) dX6_init_31 (by decide) (fun H locs hz P => ?_)
  have hz : H.size = ad zqc15.length := hz
  have P : zP D zqc15 ad cA A zuc24 s H _ := P
  refine zk_putR C hin P hz (ci := 6) rfl iX6 tyX6 tyX6_ok nmX6 2 (by decide) rfl rfl kF6_26 (o := 0) (q := 15) (fs := [.inr 1, .inr 13, .inl 2, .inl 2, .inl 2, .inl 2, .inl 2, .inl 2, .inl 2, .inl 2, .inl 0, .inl 0]) rfl (by decide) rfl rfl dX6_init_34 (fun H locs hz P => ?_)
  have hz : H.size = ad zqc16.length := hz
  have P : zP D zqc16 ad cA A zuc24 s H _ := P
  refine lv_aload_n hx hb dX6_init_37 rfl (lv_at hl 0 rfl) ?_
  refine zk_new C P hz (hAd.s 17 (by decide)) (ci := 1) rfl iX1 tyX1 tyX1_ok zcl6_30 zins1 zin1 [.inl 2, .inl 2, .inl 2] (fun j hj => by rcases (show j = 0 ∨ j = 1 ∨ j = 2 by omega) with rfl | rfl | rfl <;> rfl) (by decide) (by decide) dX6_init_38 (fun H hz P => ?_)
  have hz : H.size = ad zqc17.length := hz
  have P : zP D zqc17 ad cA A zuc25 s H _ := P
  refine W.eq (g2 := F0 m 41 ls [.ref (ad 17), .ref (ad 0)]) rfl ?_
  refine lv_dup hx hb dX6_init_41 rfl ?_
  refine zk_call C P hz (mk1_c17 hAd) zi6_32 zii1 zin1 zic1 rfl (by decide +kernel) (by decide) hl.1 (Nat.le_of_ble_eq_true rfl) dX6_init_42 (by decide) (fun H locs hz P => ?_)
  have hz : H.size = ad zqc39.length := hz
  have P : zP D zqc39 ad cA A zuc46 s H _ := P
  refine zk_putR C hin P hz (ci := 6) rfl iX6 tyX6 tyX6_ok nmX6 3 (by decide) rfl rfl kF6_33 (o := 0) (q := 17) (fs := [.inr 1, .inr 13, .inr 15, .inl 2, .inl 2, .inl 2, .inl 2, .inl 2, .inl 2, .inl 2, .inl 0, .inl 0]) rfl (by decide) rfl rfl dX6_init_45 (fun H locs hz P => ?_)
  have hz : H.size = ad zqc40.length := hz
  have P : zP D zqc40 ad cA A zuc46 s H _ := P
  refine lv_aload_n hx hb dX6_init_48 rfl (lv_at hl 0 rfl) ?_
  refine zk_new C P hz (hAd.s 32 (by decide)) (ci := 0) rfl iX0 tyX0 tyX0_ok zcl6_37 zins0 zin0 [.inl 0, .inl 2, .inl 2, .inl 2, .inl 2, .inl 1, .inl 1, .inl 1, .inl 1] (fun j hj => by rcases (show j = 0 ∨ j = 1 ∨ j = 2 ∨ j = 3 ∨ j = 4 ∨ j = 5 ∨ j = 6 ∨ j = 7 ∨ j = 8 by omega) with rfl | rfl | rfl | rfl | rfl | rfl | rfl | rfl | rfl <;> rfl) (by decide) (by decide) dX6_init_49 (fun H hz P => ?_)
  have hz : H.size = ad zqc41.length := hz
  have P : zP D zqc41 ad cA A zuc47 s H _ := P
  refine W.eq (g2 := F0 m 52 ls [.ref (ad 32), .ref (ad 0)]) rfl ?_
  refine lv_dup hx hb dX6_init_52 rfl ?_
  refine zk_call C P hz (mk0_c32 hAd) zi6_39 zii0 zin0 zic0 rfl (by decide +kernel) (by decide) hl.1 (Nat.le_of_ble_eq_true rfl) dX6_init_53 (by decide) (fun H locs hz P => ?_)
  have hz : H.size = ad zqc49.length := hz
  have P : zP D zqc49 ad cA A zuc56 s H _ := P
  refine zk_putR C hin P hz (ci := 6) rfl iX6 tyX6 tyX6_ok nmX6 4 (by decide) rfl rfl kF6_40 (o := 0) (q := 32) (fs := [.inr 1, .inr 13, .inr 15, .inr 17, .inl 2, .inl 2, .inl 2, .inl 2, .inl 2, .inl 2, .inl 0, .inl 0]) rfl (by decide) rfl rfl dX6_init_56 (fun H locs hz P => ?_)
  have hz : H.size = ad zqc50.length := hz
  have P : zP D zqc50 ad cA A zuc56 s H _ := P
  refine lv_aload_n hx hb dX6_init_59 rfl (lv_at hl 0 rfl) ?_
  refine zk_new C P hz (hAd.s 37 (by decide)) (ci := 5) rfl iX5 tyX5 tyX5_ok zcl6_44 zins5 zin5 [.inl 0, .inl 0, .inl 2, .inl 2, .inl 2, .inl 2, .inl 2] (fun j hj => by rcases (show j = 0 ∨ j = 1 ∨ j = 2 ∨ j = 3 ∨ j = 4 ∨ j = 5 ∨ j = 6 by omega) with rfl | rfl | rfl | rfl | rfl | rfl | rfl <;> rfl) (by decide) (by decide) dX6_init_60 (fun H hz P => ?_)
  have hz : H.size = ad zqc51.length := hz
  have P : zP D zqc51 ad cA A zuc57 s H _ := P
  refine W.eq (g2 := F0 m 63 ls [.ref (ad 37), .ref (ad 0)]) rfl ?_
  refine lv_dup hx hb dX6_init_63 rfl ?_
  refine zk_call C P hz (mk5_c37 hAd) zi6_46 zii5 zin5 zic5 rfl (by decide +kernel) (by decide) hl.1 (Nat.le_of_ble_eq_true rfl) dX6_init_64 (by decide) (fun H locs hz P => ?_)
  have hz : H.size = ad zqc61.length := hz
  have P : zP D zqc61 ad cA A zuc64 s H _ := P
  refine zk_putR C hin P hz (ci := 6) rfl iX6 tyX6 tyX6_ok nmX6 5 (by decide) rfl rfl kF6_47 (o := 0) (q := 37) (fs := [.inr 1, .inr 13, .inr 15, .inr 17, .inr 32, .inl 2, .inl 2, .inl 2, .inl 2, .inl 2, .inl 0, .inl 0]) rfl (by decide) rfl rfl dX6_init_67 (fun H locs hz P => ?_)
  have hz : H.size = ad zqc62.length := hz
  have P : zP D zqc62 ad cA A zuc64 s H _ := P
  refine lv_aload_n hx hb dX6_init_70 rfl (lv_at hl 0 rfl) ?_
  refine zk_new C P hz (hAd.s 46 (by decide)) (ci := 5) rfl iX5 tyX5 tyX5_ok zcl6_44 zins5 zin5 [.inl 0, .inl 0, .inl 2, .inl 2, .inl 2, .inl 2, .inl 2] (fun j hj => by rcases (show j = 0 ∨ j = 1 ∨ j = 2 ∨ j = 3 ∨ j = 4 ∨ j = 5 ∨ j = 6 by omega) with rfl | rfl | rfl | rfl | rfl | rfl | rfl <;> rfl) (by decide) (by decide) dX6_init_71 (fun H hz P => ?_)
  have hz : H.size = ad zqc63.length := hz
  have P : zP D zqc63 ad cA A zuc65 s H _ := P
  refine W.eq (g2 := F0 m 74 ls [.ref (ad 46), .ref (ad 0)]) rfl ?_
  refine lv_dup hx hb dX6_init_74 rfl ?_
  refine zk_call C P hz (mk5_c46 hAd) zi6_46 zii5 zin5 zic5 rfl (by decide +kernel) (by decide) hl.1 (Nat.le_of_ble_eq_true rfl) dX6_init_75 (by decide) (fun H locs hz P => ?_)
  have hz : H.size = ad zqc73.length := hz
  have P : zP D zqc73 ad cA A zuc72 s H _ := P
  refine zk_putR C hin P hz (ci := 6) rfl iX6 tyX6 tyX6_ok nmX6 6 (by decide) rfl rfl kF6_51 (o := 0) (q := 46) (fs := [.inr 1, .inr 13, .inr 15, .inr 17, .inr 32, .inr 37, .inl 2, .inl 2, .inl 2, .inl 2, .inl 0, .inl 0]) rfl (by decide) rfl rfl dX6_init_78 (fun H locs hz P => ?_)
  have hz : H.size = ad zqc74.length := hz
  have P : zP D zqc74 ad cA A zuc72 s H _ := P
  refine lv_aload_n hx hb dX6_init_81 rfl (lv_at hl 0 rfl) ?_
  refine zk_new C P hz (hAd.s 55 (by decide)) (ci := 5) rfl iX5 tyX5 tyX5_ok zcl6_44 zins5 zin5 [.inl 0, .inl 0, .inl 2, .inl 2, .inl 2, .inl 2, .inl 2] (fun j hj => by rcases (show j = 0 ∨ j = 1 ∨ j = 2 ∨ j = 3 ∨ j = 4 ∨ j = 5 ∨ j = 6 by omega) with rfl | rfl | rfl | rfl | rfl | rfl | rfl <;> rfl) (by decide) (by decide) dX6_init_82 (fun H hz P => ?_)
  have hz : H.size = ad zqc75.length := hz
  have P : zP D zqc75 ad cA A zuc73 s H _ := P
  refine W.eq (g2 := F0 m 85 ls [.ref (ad 55), .ref (ad 0)]) rfl ?_
  refine lv_dup hx hb dX6_init_85 rfl ?_
  refine zk_call C P hz (mk5_c55 hAd) zi6_46 zii5 zin5 zic5 rfl (by decide +kernel) (by decide) hl.1 (Nat.le_of_ble_eq_true rfl) dX6_init_86 (by decide) (fun H locs hz P => ?_)
  have hz : H.size = ad zqc85.length := hz
  have P : zP D zqc85 ad cA A zuc80 s H _ := P
  refine zk_putR C hin P hz (ci := 6) rfl iX6 tyX6 tyX6_ok nmX6 7 (by decide) rfl rfl kF6_54 (o := 0) (q := 55) (fs := [.inr 1, .inr 13, .inr 15, .inr 17, .inr 32, .inr 37, .inr 46, .inl 2, .inl 2, .inl 2, .inl 0, .inl 0]) rfl (by decide) rfl rfl dX6_init_89 (fun H locs hz P => ?_)
  have hz : H.size = ad zqc86.length := hz
  have P : zP D zqc86 ad cA A zuc80 s H _ := P
  refine lv_aload_n hx hb dX6_init_92 rfl (lv_at hl 0 rfl) ?_
  refine lv_iconst (v := 3) hx hb dX6_init_93 (by decide) ?_
  refine zk_newa C P hz (hAd.s 64 (by decide)) (ty := .long) rfl 1 rfl (fun h => h) za_long 3 (by first | rfl | (show _ = _; simp only [zcel, zClr_1, zClr_2, zk_arr]; rfl)) (fun _ => rfl) (by decide) (by decide) (by decide) (by decide) (by decide) dX6_init_94 (fun H hz P => ?_)
  have hz : H.size = ad zqc87.length := hz
  have P : zP D zqc87 ad cA A zuc81 s H _ := P
  refine W.eq (g2 := F0 m 96 ls [.ref (ad 64), .ref (ad 0)]) rfl ?_
  refine zk_putR C hin P hz (ci := 6) rfl iX6 tyX6 tyX6_ok nmX6 8 (by decide) rfl rfl kF6_57 (o := 0) (q := 64) (fs := [.inr 1, .inr 13, .inr 15, .inr 17, .inr 32, .inr 37, .inr 46, .inr 55, .inl 2, .inl 2, .inl 0, .inl 0]) rfl (by decide) rfl rfl dX6_init_96 (fun H locs hz P => ?_)
  have hz : H.size = ad zqc88.length := hz
  have P : zP D zqc88 ad cA A zuc81 s H _ := P
  refine lv_aload_n hx hb dX6_init_99 rfl (lv_at hl 0 rfl) ?_
  refine lv_bipush (v := 6) hx hb dX6_init_100 (by decide) ?_
  refine zk_newa C P hz (hAd.s 65 (by decide)) (ty := .int) rfl 0 rfl (fun h => h) za_int 6 (by first | rfl | (show _ = _; simp only [zcel, zClr_1, zClr_2, zk_arr]; rfl)) (fun _ => rfl) (by decide) (by decide) (by decide) (by decide) (by decide) dX6_init_102 (fun H hz P => ?_)
  have hz : H.size = ad zqc89.length := hz
  have P : zP D zqc89 ad cA A zuc82 s H _ := P
  refine W.eq (g2 := F0 m 104 ls [.ref (ad 65), .ref (ad 0)]) rfl ?_
  refine zk_putR C hin P hz (ci := 6) rfl iX6 tyX6 tyX6_ok nmX6 9 (by decide) rfl rfl kF6_61 (o := 0) (q := 65) (fs := [.inr 1, .inr 13, .inr 15, .inr 17, .inr 32, .inr 37, .inr 46, .inr 55, .inr 64, .inl 2, .inl 0, .inl 0]) rfl (by decide) rfl rfl dX6_init_104 (fun H locs hz P => ?_)
  have hz : H.size = ad zqc90.length := hz
  have P : zP D zqc90 ad cA A zuc82 s H _ := P
  refine lv_aload_n hx hb dX6_init_107 rfl (lv_at hl 0 rfl) ?_
  refine lv_iconst (v := 0) hx hb dX6_init_108 (by decide) ?_
  refine zk_putI C P hz (ci := 6) rfl iX6 tyX6 tyX6_ok nmX6 10 (by decide) rfl rfl kF6_65 (o := 0) (fs := [.inr 1, .inr 13, .inr 15, .inr 17, .inr 32, .inr 37, .inr 46, .inr 55, .inr 64, .inr 65, .inl 0, .inl 0]) rfl rfl dX6_init_109 (by decide) (by decide) (fun H locs hz P => ?_)
  have hz : H.size = ad zqc90.length := hz
  have P : zP D zqc90 ad cA A zuc83 s H _ := P
  refine lv_aload_n hx hb dX6_init_112 rfl (lv_at hl 0 rfl) ?_
  refine lv_iconst (v := 0) hx hb dX6_init_113 (by decide) ?_
  refine zk_putI C P hz (ci := 6) rfl iX6 tyX6 tyX6_ok nmX6 11 (by decide) rfl rfl kF6_69 (o := 0) (fs := [.inr 1, .inr 13, .inr 15, .inr 17, .inr 32, .inr 37, .inr 46, .inr 55, .inr 64, .inr 65, .inl 0, .inl 0]) rfl rfl dX6_init_114 rfl rfl (fun H locs hz P => ?_)
  have hz : H.size = ad zqc90.length := hz
  have P : zP D zqc90 ad cA A zuc84 s H _ := P
  exact zk_ret C P hz (by decide) (by decide) dX6_init_117
set_option maxRecDepth 100000 in
theorem mk7_m0 {l : Launch} {D : va_G} {cA : Nat → ClassId} {ad : Nat → Nat} {h0 : Nat} (hAd : zAd h0 ad) : zMk l yX7_init cX7_init 1 1 20 17 857 D ad cA zqm0 zqm34 zum0 zum25 [.ref (ad 0)] := by
  refine zk_enter (by decide +kernel) (Nat.le_of_ble_eq_true rfl) rfl (fun p e s m below meth c A C hin P hz ls hl => ?_)
  have hx := C.1
  have hb := C.2.1
  have hl : lv_has ls 1 [(0, .ref (ad 0))] := hl
  refine lv_aload_n hx hb dX7_init_0 rfl (lv_at hl 0 rfl) ?_
  refine zk_obj C zo7_3 zo_i zo_c hl.1 dX7_init_1 (by decide) (Nat.le_of_ble_eq_true rfl) ?_
  refine lv_aload_n hx hb dX7_init_4 rfl (lv_at hl 0 rfl) ?_
  refine lv_bipush (v := 8) hx hb dX7_init_5 (by decide) ?_
  refine zk_newa C P hz (hAd.s 1 (by decide)) (ty := .int) rfl 0 rfl (fun h => h) za_int 8 (by first | rfl | (show _ = _; simp only [zcel, zClr_1, zClr_2, zk_arr]; rfl)) (fun _ => rfl) (by decide) (by decide) (by decide) (by decide) (by decide) dX7_init_7 (fun H hz P => ?_)
  have hz : H.size = ad zqm1.length := hz
  have P : zP D zqm1 ad cA A zum1 s H _ := P
  refine W.eq (g2 := F0 m 9 ls [.ref (ad 1), .ref (ad 0)]) rfl ?_
  refine lv_dup hx hb dX7_init_9 rfl ?_
  refine lv_iconst (v := 0) hx hb dX7_init_10 (by decide) ?_
  refine lv_iconst (v := (-1)) hx hb dX7_init_11 (by decide) ?_
  refine zk_iast C P hz (q := 1) (n := 8) (rs := []) rfl dX7_init_12 (by decide) (fun H locs hz P => ?_)
  have hz : H.size = ad zqm1.length := hz
  have P : zP D zqm1 ad cA A zum2 s H _ := P
  refine lv_dup hx hb dX7_init_13 rfl ?_
  refine lv_iconst (v := 1) hx hb dX7_init_14 (by decide) ?_
  refine lv_iconst (v := (-1)) hx hb dX7_init_15 (by decide) ?_
  refine zk_iast C P hz (q := 1) (n := 8) (rs := []) rfl dX7_init_16 (by decide) (fun H locs hz P => ?_)
  have hz : H.size = ad zqm1.length := hz
  have P : zP D zqm1 ad cA A zum3 s H _ := P
  refine lv_dup hx hb dX7_init_17 rfl ?_
  refine lv_iconst (v := 2) hx hb dX7_init_18 (by decide) ?_
  refine lv_iconst (v := (-1)) hx hb dX7_init_19 (by decide) ?_
  refine zk_iast C P hz (q := 1) (n := 8) (rs := []) rfl dX7_init_20 (by decide) (fun H locs hz P => ?_)
  have hz : H.size = ad zqm1.length := hz
  have P : zP D zqm1 ad cA A zum4 s H _ := P
  refine lv_dup hx hb dX7_init_21 rfl ?_
  refine lv_iconst (v := 3) hx hb dX7_init_22 (by decide) ?_
  refine lv_iconst (v := (-1)) hx hb dX7_init_23 (by decide) ?_
  refine zk_iast C P hz (q := 1) (n := 8) (rs := []) rfl dX7_init_24 (by decide) (fun H locs hz P => ?_)
  have hz : H.size = ad zqm1.length := hz
  have P : zP D zqm1 ad cA A zum5 s H _ := P
  refine lv_dup hx hb dX7_init_25 rfl ?_
  refine lv_iconst (v := 4) hx hb dX7_init_26 (by decide) ?_
  refine lv_iconst (v := (-1)) hx hb dX7_init_27 (by decide) ?_
  refine zk_iast C P hz (q := 1) (n := 8) (rs := []) rfl dX7_init_28 (by decide) (fun H locs hz P => ?_)
  have hz : H.size = ad zqm1.length := hz
  have P : zP D zqm1 ad cA A zum6 s H _ := P
  refine lv_dup hx hb dX7_init_29 rfl ?_
  refine lv_iconst (v := 5) hx hb dX7_init_30 (by decide) ?_
  refine lv_iconst (v := (-1)) hx hb dX7_init_31 (by decide) ?_
  refine zk_iast C P hz (q := 1) (n := 8) (rs := []) rfl dX7_init_32 (by decide) (fun H locs hz P => ?_)
  have hz : H.size = ad zqm1.length := hz
  have P : zP D zqm1 ad cA A zum7 s H _ := P
  refine lv_dup hx hb dX7_init_33 rfl ?_
  refine lv_bipush (v := 6) hx hb dX7_init_34 (by decide) ?_
  refine lv_iconst (v := (-1)) hx hb dX7_init_36 (by decide) ?_
  refine zk_iast C P hz (q := 1) (n := 8) (rs := []) rfl dX7_init_37 (by decide) (fun H locs hz P => ?_)
  have hz : H.size = ad zqm1.length := hz
  have P : zP D zqm1 ad cA A zum8 s H _ := P
  refine lv_dup hx hb dX7_init_38 rfl ?_
  refine lv_bipush (v := 7) hx hb dX7_init_39 (by decide) ?_
  refine lv_iconst (v := (-1)) hx hb dX7_init_41 (by decide) ?_
  refine zk_iast C P hz (q := 1) (n := 8) (rs := []) rfl dX7_init_42 (by decide) (fun H locs hz P => ?_)
  have hz : H.size = ad zqm1.length := hz
  have P : zP D zqm1 ad cA A zum9 s H _ := P
  refine zk_putR C hin P hz (ci := 7) rfl iX7 tyX7 tyX7_ok nmX7 2 (by decide) rfl rfl kF7_9 (o := 0) (q := 1) (fs := [.inl 0, .inl 0, .inl 2, .inl 2, .inl 2, .inl 0, .inl 0, .inl 2, .inl 2, .inl 2, .inl 0, .inl 0, .inl 2, .inl 2, .inl 2, .inl 2, .inl 0, .inl 0, .inl 0, .inl 0, .inl 0, .inl 0, .inl 0, .inl 0, .inl 0, .inl 0, .inl 2, .inl 2, .inl 2, .inl 0, .inl 2, .inl 1, .inl 1, .inl 2, .inl 2, .inl 2, .inl 0]) rfl (by decide) rfl rfl dX7_init_43 (fun H locs hz P => ?_)
  have hz : H.size = ad zqm2.length := hz
  have P : zP D zqm2 ad cA A zum9 s H _ := P
  refine lv_aload_n hx hb dX7_init_46 rfl (lv_at hl 0 rfl) ?_
  refine lv_bipush (v := 8) hx hb dX7_init_47 (by decide) ?_
  refine zk_newa C P hz (hAd.s 2 (by decide)) (ty := .int) rfl 0 rfl (fun h => h) za_int 8 (by first | rfl | (show _ = _; simp only [zcel, zClr_1, zClr_2, zk_arr]; rfl)) (fun _ => rfl) (by decide) (by decide) (by decide) (by decide) (by decide) dX7_init_49 (fun H hz P => ?_)
  have hz : H.size = ad zqm3.length := hz
  have P : zP D zqm3 ad cA A zum10 s H _ := P
  refine W.eq (g2 := F0 m 51 ls [.ref (ad 2), .ref (ad 0)]) rfl ?_
  refine zk_putR C hin P hz (ci := 7) rfl iX7 tyX7 tyX7_ok nmX7 3 (by decide) rfl rfl kF7_13 (o := 0) (q := 2) (fs := [.inl 0, .inl 0, .inr 1, .inl 2, .inl 2, .inl 0, .inl 0, .inl 2, .inl 2, .inl 2, .inl 0, .inl 0, .inl 2, .inl 2, .inl 2, .inl 2, .inl 0, .inl 0, .inl 0, .inl 0, .inl 0, .inl 0, .inl 0, .inl 0, .inl 0, .inl 0, .inl 2, .inl 2, .inl 2, .inl 0, .inl 2, .inl 1, .inl 1, .inl 2, .inl 2, .inl 2, .inl 0]) rfl (by decide) rfl rfl dX7_init_51 (fun H locs hz P => ?_)
  have hz : H.size = ad zqm4.length := hz
  have P : zP D zqm4 ad cA A zum10 s H _ := P
  refine lv_aload_n hx hb dX7_init_54 rfl (lv_at hl 0 rfl) ?_
  refine lv_sipush (v := 320) hx hb dX7_init_55 (by decide) ?_
  refine zk_newa C P hz (hAd.s 3 (by decide)) (ty := .int) rfl 0 rfl (fun h => h) za_int 320 (by first | rfl | (show _ = _; simp only [zcel, zClr_1, zClr_2, zk_arr]; rfl)) (fun _ => rfl) (by decide) (by decide) (by decide) (by decide) (by decide) dX7_init_58 (fun H hz P => ?_)
  have hz : H.size = ad zqm5.length := hz
  have P : zP D zqm5 ad cA A zum11 s H _ := P
  refine W.eq (g2 := F0 m 60 ls [.ref (ad 3), .ref (ad 0)]) rfl ?_
  refine zk_putR C hin P hz (ci := 7) rfl iX7 tyX7 tyX7_ok nmX7 4 (by decide) rfl rfl kF7_16 (o := 0) (q := 3) (fs := [.inl 0, .inl 0, .inr 1, .inr 2, .inl 2, .inl 0, .inl 0, .inl 2, .inl 2, .inl 2, .inl 0, .inl 0, .inl 2, .inl 2, .inl 2, .inl 2, .inl 0, .inl 0, .inl 0, .inl 0, .inl 0, .inl 0, .inl 0, .inl 0, .inl 0, .inl 0, .inl 2, .inl 2, .inl 2, .inl 0, .inl 2, .inl 1, .inl 1, .inl 2, .inl 2, .inl 2, .inl 0]) rfl (by decide) rfl rfl dX7_init_60 (fun H locs hz P => ?_)
  have hz : H.size = ad zqm6.length := hz
  have P : zP D zqm6 ad cA A zum11 s H _ := P
  refine lv_aload_n hx hb dX7_init_63 rfl (lv_at hl 0 rfl) ?_
  refine lv_bipush (v := 6) hx hb dX7_init_64 (by decide) ?_
  refine zk_newa C P hz (hAd.s 4 (by decide)) (ty := .int) rfl 0 rfl (fun h => h) za_int 6 (by first | rfl | (show _ = _; simp only [zcel, zClr_1, zClr_2, zk_arr]; rfl)) (fun _ => rfl) (by decide) (by decide) (by decide) (by decide) (by decide) dX7_init_66 (fun H hz P => ?_)
  have hz : H.size = ad zqm7.length := hz
  have P : zP D zqm7 ad cA A zum12 s H _ := P
  refine W.eq (g2 := F0 m 68 ls [.ref (ad 4), .ref (ad 0)]) rfl ?_
  refine zk_putR C hin P hz (ci := 7) rfl iX7 tyX7 tyX7_ok nmX7 7 (by decide) rfl rfl kF7_19 (o := 0) (q := 4) (fs := [.inl 0, .inl 0, .inr 1, .inr 2, .inr 3, .inl 0, .inl 0, .inl 2, .inl 2, .inl 2, .inl 0, .inl 0, .inl 2, .inl 2, .inl 2, .inl 2, .inl 0, .inl 0, .inl 0, .inl 0, .inl 0, .inl 0, .inl 0, .inl 0, .inl 0, .inl 0, .inl 2, .inl 2, .inl 2, .inl 0, .inl 2, .inl 1, .inl 1, .inl 2, .inl 2, .inl 2, .inl 0]) rfl (by decide) rfl rfl dX7_init_68 (fun H locs hz P => ?_)
  have hz : H.size = ad zqm8.length := hz
  have P : zP D zqm8 ad cA A zum12 s H _ := P
  refine lv_aload_n hx hb dX7_init_71 rfl (lv_at hl 0 rfl) ?_
  refine lv_iconst (v := 3) hx hb dX7_init_72 (by decide) ?_
  refine zk_newa C P hz (hAd.s 5 (by decide)) (ty := .int) rfl 0 rfl (fun h => h) za_int 3 (by first | rfl | (show _ = _; simp only [zcel, zClr_1, zClr_2, zk_arr]; rfl)) (fun _ => rfl) (by decide) (by decide) (by decide) (by decide) (by decide) dX7_init_73 (fun H hz P => ?_)
  have hz : H.size = ad zqm9.length := hz
  have P : zP D zqm9 ad cA A zum13 s H _ := P
  refine W.eq (g2 := F0 m 75 ls [.ref (ad 5), .ref (ad 0)]) rfl ?_
  refine zk_putR C hin P hz (ci := 7) rfl iX7 tyX7 tyX7_ok nmX7 8 (by decide) rfl rfl kF7_22 (o := 0) (q := 5) (fs := [.inl 0, .inl 0, .inr 1, .inr 2, .inr 3, .inl 0, .inl 0, .inr 4, .inl 2, .inl 2, .inl 0, .inl 0, .inl 2, .inl 2, .inl 2, .inl 2, .inl 0, .inl 0, .inl 0, .inl 0, .inl 0, .inl 0, .inl 0, .inl 0, .inl 0, .inl 0, .inl 2, .inl 2, .inl 2, .inl 0, .inl 2, .inl 1, .inl 1, .inl 2, .inl 2, .inl 2, .inl 0]) rfl (by decide) rfl rfl dX7_init_75 (fun H locs hz P => ?_)
  have hz : H.size = ad zqm10.length := hz
  have P : zP D zqm10 ad cA A zum13 s H _ := P
  refine lv_aload_n hx hb dX7_init_78 rfl (lv_at hl 0 rfl) ?_
  refine lv_bipush (v := 18) hx hb dX7_init_79 (by decide) ?_
  refine zk_newa C P hz (hAd.s 6 (by decide)) (ty := .int) rfl 0 rfl (fun h => h) za_int 18 (by first | rfl | (show _ = _; simp only [zcel, zClr_1, zClr_2, zk_arr]; rfl)) (fun _ => rfl) (by decide) (by decide) (by decide) (by decide) (by decide) dX7_init_81 (fun H hz P => ?_)
  have hz : H.size = ad zqm11.length := hz
  have P : zP D zqm11 ad cA A zum14 s H _ := P
  refine W.eq (g2 := F0 m 83 ls [.ref (ad 6), .ref (ad 0)]) rfl ?_
  refine zk_putR C hin P hz (ci := 7) rfl iX7 tyX7 tyX7_ok nmX7 9 (by decide) rfl rfl kF7_25 (o := 0) (q := 6) (fs := [.inl 0, .inl 0, .inr 1, .inr 2, .inr 3, .inl 0, .inl 0, .inr 4, .inr 5, .inl 2, .inl 0, .inl 0, .inl 2, .inl 2, .inl 2, .inl 2, .inl 0, .inl 0, .inl 0, .inl 0, .inl 0, .inl 0, .inl 0, .inl 0, .inl 0, .inl 0, .inl 2, .inl 2, .inl 2, .inl 0, .inl 2, .inl 1, .inl 1, .inl 2, .inl 2, .inl 2, .inl 0]) rfl (by decide) rfl rfl dX7_init_83 (fun H locs hz P => ?_)
  have hz : H.size = ad zqm12.length := hz
  have P : zP D zqm12 ad cA A zum14 s H _ := P
  refine lv_aload_n hx hb dX7_init_86 rfl (lv_at hl 0 rfl) ?_
  refine lv_bipush (v := 6) hx hb dX7_init_87 (by decide) ?_
  refine zk_newa C P hz (hAd.s 7 (by decide)) (ty := .int) rfl 0 rfl (fun h => h) za_int 6 (by first | rfl | (show _ = _; simp only [zcel, zClr_1, zClr_2, zk_arr]; rfl)) (fun _ => rfl) (by decide) (by decide) (by decide) (by decide) (by decide) dX7_init_89 (fun H hz P => ?_)
  have hz : H.size = ad zqm13.length := hz
  have P : zP D zqm13 ad cA A zum15 s H _ := P
  refine W.eq (g2 := F0 m 91 ls [.ref (ad 7), .ref (ad 0)]) rfl ?_
  refine zk_putR C hin P hz (ci := 7) rfl iX7 tyX7 tyX7_ok nmX7 12 (by decide) rfl rfl kF7_28 (o := 0) (q := 7) (fs := [.inl 0, .inl 0, .inr 1, .inr 2, .inr 3, .inl 0, .inl 0, .inr 4, .inr 5, .inr 6, .inl 0, .inl 0, .inl 2, .inl 2, .inl 2, .inl 2, .inl 0, .inl 0, .inl 0, .inl 0, .inl 0, .inl 0, .inl 0, .inl 0, .inl 0, .inl 0, .inl 2, .inl 2, .inl 2, .inl 0, .inl 2, .inl 1, .inl 1, .inl 2, .inl 2, .inl 2, .inl 0]) rfl (by decide) rfl rfl dX7_init_91 (fun H locs hz P => ?_)
  have hz : H.size = ad zqm14.length := hz
  have P : zP D zqm14 ad cA A zum15 s H _ := P
  refine lv_aload_n hx hb dX7_init_94 rfl (lv_at hl 0 rfl) ?_
  refine lv_iconst (v := 3) hx hb dX7_init_95 (by decide) ?_
  refine zk_newa C P hz (hAd.s 8 (by decide)) (ty := .int) rfl 0 rfl (fun h => h) za_int 3 (by first | rfl | (show _ = _; simp only [zcel, zClr_1, zClr_2, zk_arr]; rfl)) (fun _ => rfl) (by decide) (by decide) (by decide) (by decide) (by decide) dX7_init_96 (fun H hz P => ?_)
  have hz : H.size = ad zqm15.length := hz
  have P : zP D zqm15 ad cA A zum16 s H _ := P
  refine W.eq (g2 := F0 m 98 ls [.ref (ad 8), .ref (ad 0)]) rfl ?_
  refine zk_putR C hin P hz (ci := 7) rfl iX7 tyX7 tyX7_ok nmX7 13 (by decide) rfl rfl kF7_31 (o := 0) (q := 8) (fs := [.inl 0, .inl 0, .inr 1, .inr 2, .inr 3, .inl 0, .inl 0, .inr 4, .inr 5, .inr 6, .inl 0, .inl 0, .inr 7, .inl 2, .inl 2, .inl 2, .inl 0, .inl 0, .inl 0, .inl 0, .inl 0, .inl 0, .inl 0, .inl 0, .inl 0, .inl 0, .inl 2, .inl 2, .inl 2, .inl 0, .inl 2, .inl 1, .inl 1, .inl 2, .inl 2, .inl 2, .inl 0]) rfl (by decide) rfl rfl dX7_init_98 (fun H locs hz P => ?_)
  have hz : H.size = ad zqm16.length := hz
  have P : zP D zqm16 ad cA A zum16 s H _ := P
  refine lv_aload_n hx hb dX7_init_101 rfl (lv_at hl 0 rfl) ?_
  refine lv_bipush (v := 18) hx hb dX7_init_102 (by decide) ?_
  refine zk_newa C P hz (hAd.s 9 (by decide)) (ty := .int) rfl 0 rfl (fun h => h) za_int 18 (by first | rfl | (show _ = _; simp only [zcel, zClr_1, zClr_2, zk_arr]; rfl)) (fun _ => rfl) (by decide) (by decide) (by decide) (by decide) (by decide) dX7_init_104 (fun H hz P => ?_)
  have hz : H.size = ad zqm17.length := hz
  have P : zP D zqm17 ad cA A zum17 s H _ := P
  refine W.eq (g2 := F0 m 106 ls [.ref (ad 9), .ref (ad 0)]) rfl ?_
  refine zk_putR C hin P hz (ci := 7) rfl iX7 tyX7 tyX7_ok nmX7 14 (by decide) rfl rfl kF7_34 (o := 0) (q := 9) (fs := [.inl 0, .inl 0, .inr 1, .inr 2, .inr 3, .inl 0, .inl 0, .inr 4, .inr 5, .inr 6, .inl 0, .inl 0, .inr 7, .inr 8, .inl 2, .inl 2, .inl 0, .inl 0, .inl 0, .inl 0, .inl 0, .inl 0, .inl 0, .inl 0, .inl 0, .inl 0, .inl 2, .inl 2, .inl 2, .inl 0, .inl 2, .inl 1, .inl 1, .inl 2, .inl 2, .inl 2, .inl 0]) rfl (by decide) rfl rfl dX7_init_106 (fun H locs hz P => ?_)
  have hz : H.size = ad zqm18.length := hz
  have P : zP D zqm18 ad cA A zum17 s H _ := P
  refine lv_aload_n hx hb dX7_init_109 rfl (lv_at hl 0 rfl) ?_
  refine lv_sipush (v := 400) hx hb dX7_init_110 (by decide) ?_
  refine zk_newa C P hz (hAd.s 10 (by decide)) (ty := .int) rfl 0 rfl (fun h => h) za_int 400 (by first | rfl | (show _ = _; simp only [zcel, zClr_1, zClr_2, zk_arr]; rfl)) (fun _ => rfl) (by decide) (by decide) (by decide) (by decide) (by decide) dX7_init_113 (fun H hz P => ?_)
  have hz : H.size = ad zqm19.length := hz
  have P : zP D zqm19 ad cA A zum18 s H _ := P
  refine W.eq (g2 := F0 m 115 ls [.ref (ad 10), .ref (ad 0)]) rfl ?_
  refine zk_putR C hin P hz (ci := 7) rfl iX7 tyX7 tyX7_ok nmX7 15 (by decide) rfl rfl kF7_37 (o := 0) (q := 10) (fs := [.inl 0, .inl 0, .inr 1, .inr 2, .inr 3, .inl 0, .inl 0, .inr 4, .inr 5, .inr 6, .inl 0, .inl 0, .inr 7, .inr 8, .inr 9, .inl 2, .inl 0, .inl 0, .inl 0, .inl 0, .inl 0, .inl 0, .inl 0, .inl 0, .inl 0, .inl 0, .inl 2, .inl 2, .inl 2, .inl 0, .inl 2, .inl 1, .inl 1, .inl 2, .inl 2, .inl 2, .inl 0]) rfl (by decide) rfl rfl dX7_init_115 (fun H locs hz P => ?_)
  have hz : H.size = ad zqm20.length := hz
  have P : zP D zqm20 ad cA A zum18 s H _ := P
  refine lv_aload_n hx hb dX7_init_118 rfl (lv_at hl 0 rfl) ?_
  refine lv_iconst (v := 3) hx hb dX7_init_119 (by decide) ?_
  refine zk_newa C P hz (hAd.s 11 (by decide)) (ty := .long) rfl 1 rfl (fun h => h) za_long 3 (by first | rfl | (show _ = _; simp only [zcel, zClr_1, zClr_2, zk_arr]; rfl)) (fun _ => rfl) (by decide) (by decide) (by decide) (by decide) (by decide) dX7_init_120 (fun H hz P => ?_)
  have hz : H.size = ad zqm21.length := hz
  have P : zP D zqm21 ad cA A zum19 s H _ := P
  refine W.eq (g2 := F0 m 122 ls [.ref (ad 11), .ref (ad 0)]) rfl ?_
  refine zk_putR C hin P hz (ci := 7) rfl iX7 tyX7 tyX7_ok nmX7 26 (by decide) rfl rfl kF7_40 (o := 0) (q := 11) (fs := [.inl 0, .inl 0, .inr 1, .inr 2, .inr 3, .inl 0, .inl 0, .inr 4, .inr 5, .inr 6, .inl 0, .inl 0, .inr 7, .inr 8, .inr 9, .inr 10, .inl 0, .inl 0, .inl 0, .inl 0, .inl 0, .inl 0, .inl 0, .inl 0, .inl 0, .inl 0, .inl 2, .inl 2, .inl 2, .inl 0, .inl 2, .inl 1, .inl 1, .inl 2, .inl 2, .inl 2, .inl 0]) rfl (by decide) rfl rfl dX7_init_122 (fun H locs hz P => ?_)
  have hz : H.size = ad zqm22.length := hz
  have P : zP D zqm22 ad cA A zum19 s H _ := P
  refine lv_aload_n hx hb dX7_init_125 rfl (lv_at hl 0 rfl) ?_
  refine lv_bipush (v := 6) hx hb dX7_init_126 (by decide) ?_
  refine zk_newa C P hz (hAd.s 12 (by decide)) (ty := .int) rfl 0 rfl (fun h => h) za_int 6 (by first | rfl | (show _ = _; simp only [zcel, zClr_1, zClr_2, zk_arr]; rfl)) (fun _ => rfl) (by decide) (by decide) (by decide) (by decide) (by decide) dX7_init_128 (fun H hz P => ?_)
  have hz : H.size = ad zqm23.length := hz
  have P : zP D zqm23 ad cA A zum20 s H _ := P
  refine W.eq (g2 := F0 m 130 ls [.ref (ad 12), .ref (ad 0)]) rfl ?_
  refine zk_putR C hin P hz (ci := 7) rfl iX7 tyX7 tyX7_ok nmX7 27 (by decide) rfl rfl kF7_44 (o := 0) (q := 12) (fs := [.inl 0, .inl 0, .inr 1, .inr 2, .inr 3, .inl 0, .inl 0, .inr 4, .inr 5, .inr 6, .inl 0, .inl 0, .inr 7, .inr 8, .inr 9, .inr 10, .inl 0, .inl 0, .inl 0, .inl 0, .inl 0, .inl 0, .inl 0, .inl 0, .inl 0, .inl 0, .inr 11, .inl 2, .inl 2, .inl 0, .inl 2, .inl 1, .inl 1, .inl 2, .inl 2, .inl 2, .inl 0]) rfl (by decide) rfl rfl dX7_init_130 (fun H locs hz P => ?_)
  have hz : H.size = ad zqm24.length := hz
  have P : zP D zqm24 ad cA A zum20 s H _ := P
  refine lv_aload_n hx hb dX7_init_133 rfl (lv_at hl 0 rfl) ?_
  refine lv_iconst (v := 3) hx hb dX7_init_134 (by decide) ?_
  refine zk_newa C P hz (hAd.s 13 (by decide)) (ty := .long) rfl 1 rfl (fun h => h) za_long 3 (by first | rfl | (show _ = _; simp only [zcel, zClr_1, zClr_2, zk_arr]; rfl)) (fun _ => rfl) (by decide) (by decide) (by decide) (by decide) (by decide) dX7_init_135 (fun H hz P => ?_)
  have hz : H.size = ad zqm25.length := hz
  have P : zP D zqm25 ad cA A zum21 s H _ := P
  refine W.eq (g2 := F0 m 137 ls [.ref (ad 13), .ref (ad 0)]) rfl ?_
  refine zk_putR C hin P hz (ci := 7) rfl iX7 tyX7 tyX7_ok nmX7 28 (by decide) rfl rfl kF7_47 (o := 0) (q := 13) (fs := [.inl 0, .inl 0, .inr 1, .inr 2, .inr 3, .inl 0, .inl 0, .inr 4, .inr 5, .inr 6, .inl 0, .inl 0, .inr 7, .inr 8, .inr 9, .inr 10, .inl 0, .inl 0, .inl 0, .inl 0, .inl 0, .inl 0, .inl 0, .inl 0, .inl 0, .inl 0, .inr 11, .inr 12, .inl 2, .inl 0, .inl 2, .inl 1, .inl 1, .inl 2, .inl 2, .inl 2, .inl 0]) rfl (by decide) rfl rfl dX7_init_137 (fun H locs hz P => ?_)
  have hz : H.size = ad zqm26.length := hz
  have P : zP D zqm26 ad cA A zum21 s H _ := P
  refine lv_aload_n hx hb dX7_init_140 rfl (lv_at hl 0 rfl) ?_
  refine lv_iconst (v := 3) hx hb dX7_init_141 (by decide) ?_
  refine zk_newa C P hz (hAd.s 14 (by decide)) (ty := .long) rfl 1 rfl (fun h => h) za_long 3 (by first | rfl | (show _ = _; simp only [zcel, zClr_1, zClr_2, zk_arr]; rfl)) (fun _ => rfl) (by decide) (by decide) (by decide) (by decide) (by decide) dX7_init_142 (fun H hz P => ?_)
  have hz : H.size = ad zqm27.length := hz
  have P : zP D zqm27 ad cA A zum22 s H _ := P
  refine W.eq (g2 := F0 m 144 ls [.ref (ad 14), .ref (ad 0)]) rfl ?_
  refine zk_putR C hin P hz (ci := 7) rfl iX7 tyX7 tyX7_ok nmX7 30 (by decide) rfl rfl kF7_50 (o := 0) (q := 14) (fs := [.inl 0, .inl 0, .inr 1, .inr 2, .inr 3, .inl 0, .inl 0, .inr 4, .inr 5, .inr 6, .inl 0, .inl 0, .inr 7, .inr 8, .inr 9, .inr 10, .inl 0, .inl 0, .inl 0, .inl 0, .inl 0, .inl 0, .inl 0, .inl 0, .inl 0, .inl 0, .inr 11, .inr 12, .inr 13, .inl 0, .inl 2, .inl 1, .inl 1, .inl 2, .inl 2, .inl 2, .inl 0]) rfl (by decide) rfl rfl dX7_init_144 (fun H locs hz P => ?_)
  have hz : H.size = ad zqm28.length := hz
  have P : zP D zqm28 ad cA A zum22 s H _ := P
  refine lv_aload_n hx hb dX7_init_147 rfl (lv_at hl 0 rfl) ?_
  refine lv_bipush (v := 18) hx hb dX7_init_148 (by decide) ?_
  refine zk_newa C P hz (hAd.s 15 (by decide)) (ty := .long) rfl 1 rfl (fun h => h) za_long 18 (by first | rfl | (show _ = _; simp only [zcel, zClr_1, zClr_2, zk_arr]; rfl)) (fun _ => rfl) (by decide) (by decide) (by decide) (by decide) (by decide) dX7_init_150 (fun H hz P => ?_)
  have hz : H.size = ad zqm29.length := hz
  have P : zP D zqm29 ad cA A zum23 s H _ := P
  refine W.eq (g2 := F0 m 152 ls [.ref (ad 15), .ref (ad 0)]) rfl ?_
  refine zk_putR C hin P hz (ci := 7) rfl iX7 tyX7 tyX7_ok nmX7 33 (by decide) rfl rfl kF7_53 (o := 0) (q := 15) (fs := [.inl 0, .inl 0, .inr 1, .inr 2, .inr 3, .inl 0, .inl 0, .inr 4, .inr 5, .inr 6, .inl 0, .inl 0, .inr 7, .inr 8, .inr 9, .inr 10, .inl 0, .inl 0, .inl 0, .inl 0, .inl 0, .inl 0, .inl 0, .inl 0, .inl 0, .inl 0, .inr 11, .inr 12, .inr 13, .inl 0, .inr 14, .inl 1, .inl 1, .inl 2, .inl 2, .inl 2, .inl 0]) rfl (by decide) rfl rfl dX7_init_152 (fun H locs hz P => ?_)
  have hz : H.size = ad zqm30.length := hz
  have P : zP D zqm30 ad cA A zum23 s H _ := P
  refine lv_aload_n hx hb dX7_init_155 rfl (lv_at hl 0 rfl) ?_
  refine lv_bipush (v := 18) hx hb dX7_init_156 (by decide) ?_
  refine zk_newa C P hz (hAd.s 16 (by decide)) (ty := .long) rfl 1 rfl (fun h => h) za_long 18 (by first | rfl | (show _ = _; simp only [zcel, zClr_1, zClr_2, zk_arr]; rfl)) (fun _ => rfl) (by decide) (by decide) (by decide) (by decide) (by decide) dX7_init_158 (fun H hz P => ?_)
  have hz : H.size = ad zqm31.length := hz
  have P : zP D zqm31 ad cA A zum24 s H _ := P
  refine W.eq (g2 := F0 m 160 ls [.ref (ad 16), .ref (ad 0)]) rfl ?_
  refine zk_putR C hin P hz (ci := 7) rfl iX7 tyX7 tyX7_ok nmX7 34 (by decide) rfl rfl kF7_56 (o := 0) (q := 16) (fs := [.inl 0, .inl 0, .inr 1, .inr 2, .inr 3, .inl 0, .inl 0, .inr 4, .inr 5, .inr 6, .inl 0, .inl 0, .inr 7, .inr 8, .inr 9, .inr 10, .inl 0, .inl 0, .inl 0, .inl 0, .inl 0, .inl 0, .inl 0, .inl 0, .inl 0, .inl 0, .inr 11, .inr 12, .inr 13, .inl 0, .inr 14, .inl 1, .inl 1, .inr 15, .inl 2, .inl 2, .inl 0]) rfl (by decide) rfl rfl dX7_init_160 (fun H locs hz P => ?_)
  have hz : H.size = ad zqm32.length := hz
  have P : zP D zqm32 ad cA A zum24 s H _ := P
  refine lv_aload_n hx hb dX7_init_163 rfl (lv_at hl 0 rfl) ?_
  refine lv_bipush (v := 16) hx hb dX7_init_164 (by decide) ?_
  refine zk_newa C P hz (hAd.s 17 (by decide)) (ty := .int) rfl 0 rfl (fun h => h) za_int 16 (by first | rfl | (show _ = _; simp only [zcel, zClr_1, zClr_2, zk_arr]; rfl)) (fun _ => rfl) (by decide) (by decide) (by decide) (by decide) (by decide) dX7_init_166 (fun H hz P => ?_)
  have hz : H.size = ad zqm33.length := hz
  have P : zP D zqm33 ad cA A zum25 s H _ := P
  refine W.eq (g2 := F0 m 168 ls [.ref (ad 17), .ref (ad 0)]) rfl ?_
  refine zk_putR C hin P hz (ci := 7) rfl iX7 tyX7 tyX7_ok nmX7 35 (by decide) rfl rfl kF7_59 (o := 0) (q := 17) (fs := [.inl 0, .inl 0, .inr 1, .inr 2, .inr 3, .inl 0, .inl 0, .inr 4, .inr 5, .inr 6, .inl 0, .inl 0, .inr 7, .inr 8, .inr 9, .inr 10, .inl 0, .inl 0, .inl 0, .inl 0, .inl 0, .inl 0, .inl 0, .inl 0, .inl 0, .inl 0, .inr 11, .inr 12, .inr 13, .inl 0, .inr 14, .inl 1, .inl 1, .inr 15, .inr 16, .inl 2, .inl 0]) rfl (by decide) rfl rfl dX7_init_168 (fun H locs hz P => ?_)
  have hz : H.size = ad zqm34.length := hz
  have P : zP D zqm34 ad cA A zum25 s H _ := P
  exact zk_ret C P hz (by decide) (by decide) dX7_init_171
