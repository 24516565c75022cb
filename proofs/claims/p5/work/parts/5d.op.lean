def lv_I (kp : Nat → Nat) (L : List Nat) (E : Nat → va_E) (x m : Nat) : Prop := x ∈ L ∧ kp x = 11 ∧ m ∈ L ∧ kp m = 12 ∧ gz_ok E x ∧ ss_ok E x ∧ ac_ok E x ∧ rz_ok E m ∧ lj_ok E x m
theorem ia_ext {a b : Int32} (h : a.toInt = b.toInt) : a = b := (fa_eq _ _).mpr h
theorem cg_L_13_X11_feed : GoodIn cx_big (wsV "TreeMergeLaw" 13 "TreeMerge" yX11_feed (.code yX11_feed cX11_feed 6 (some .int) :: cx_big)) := cx_gV cw_441 cw_442 cw_443 cw_1 cw_444
theorem cg_L_17_X12_feed : GoodIn cx_big (wsV "TreeMergeLaw" 17 "TreeMergeModel" yX12_feed (.code yX12_feed cX12_feed 6 (some .int) :: cx_big)) := cx_gV cw_1387 cw_1388 cw_1389 cw_13 cw_1390
theorem cg_L_18_X11_end : GoodIn cx_big (wsV "TreeMergeLaw" 18 "TreeMerge" yX11_end (.code yX11_end cX11_end 2 (some .boolean) :: cx_big)) := cx_gV cw_453 cw_454 cw_455 cw_1 cw_456
theorem cg_L_22_X12_end : GoodIn cx_big (wsV "TreeMergeLaw" 22 "TreeMergeModel" yX12_end (.code yX12_end cX12_end 2 (some .boolean) :: cx_big)) := cx_gV cw_1395 cw_1396 cw_1397 cw_13 cw_1398
theorem cg_L_23_X11_fault : GoodIn cx_big (wsV "TreeMergeLaw" 23 "TreeMerge" yX11_fault (.code yX11_fault cX11_fault 2 (some .int) :: cx_big)) := cx_gV cw_457 cw_458 cw_459 cw_1 cw_460
theorem cg_L_27_X12_fault : GoodIn cx_big (wsV "TreeMergeLaw" 27 "TreeMergeModel" yX12_fault (.code yX12_fault cX12_fault 2 (some .int) :: cx_big)) := cx_gV cw_1402 cw_1403 cw_1404 cw_13 cw_1405
theorem cg_L_28_X11_grammar : GoodIn cx_big (wsV "TreeMergeLaw" 28 "TreeMerge" yX11_grammar (.code yX11_grammar cX11_grammar 2 (some .int) :: cx_big)) := cx_gV cw_623 cw_624 cw_625 cw_1 cw_626
theorem cg_L_32_X12_grammar : GoodIn cx_big (wsV "TreeMergeLaw" 32 "TreeMergeModel" yX12_grammar (.code yX12_grammar cX12_grammar 3 (some .int) :: cx_big)) := cx_gV cw_1527 cw_1528 cw_1529 cw_13 cw_1530
theorem cg_L_33_X11_breaks : GoodIn cx_big (wsV "TreeMergeLaw" 33 "TreeMerge" yX11_breaks (.code yX11_breaks cX11_breaks 1 (some .int) :: cx_big)) := cx_gV cw_627 cw_628 cw_629 cw_1 cw_630
theorem cg_L_36_X12_breaks : GoodIn cx_big (wsV "TreeMergeLaw" 36 "TreeMergeModel" yX12_breaks (.code yX12_breaks cX12_breaks 1 (some .int) :: cx_big)) := cx_gV cw_1531 cw_1532 cw_1533 cw_13 cw_1534
theorem cg_L_37_X11_first : GoodIn cx_big (wsV "TreeMergeLaw" 37 "TreeMerge" yX11_first (.code yX11_first cX11_first 1 (some .int) :: cx_big)) := cx_gV cw_667 cw_668 cw_669 cw_1 cw_670
theorem cg_L_40_X12_first : GoodIn cx_big (wsV "TreeMergeLaw" 40 "TreeMergeModel" yX12_first (.code yX12_first cX12_first 2 (some .int) :: cx_big)) := cx_gV cw_1567 cw_1568 cw_1569 cw_13 cw_1570
theorem cg_L_41_X11_match : GoodIn cx_big (wsV "TreeMergeLaw" 41 "TreeMerge" yX11_match (.code yX11_match cX11_match 3 (some .int) :: cx_big)) := cx_gV cw_730 cw_731 cw_732 cw_1 cw_733
theorem cg_L_45_X12_match : GoodIn cx_big (wsV "TreeMergeLaw" 45 "TreeMergeModel" yX12_match (.code yX12_match cX12_match 4 (some .int) :: cx_big)) := cx_gV cw_1587 cw_1588 cw_1589 cw_13 cw_1590
theorem cg_L_46_X11_next : GoodIn cx_big (wsV "TreeMergeLaw" 46 "TreeMerge" yX11_next (.code yX11_next cX11_next 2 (some .int) :: cx_big)) := cx_gV cw_802 cw_803 cw_804 cw_1 cw_805
theorem cg_L_50_X12_next_ : GoodIn cx_big (wsV "TreeMergeLaw" 50 "TreeMergeModel" yX12_next_ (.code yX12_next_ cX12_next_ 4 (some .int) :: cx_big)) := cx_gV cw_1648 cw_1649 cw_1650 cw_13 cw_1651
theorem cg_L_51_X11_begin : GoodIn cx_big (wsV "TreeMergeLaw" 51 "TreeMerge" yX11_begin (.code yX11_begin cX11_begin 3 (some .boolean) :: cx_big)) := cx_gV cw_807 cw_808 cw_809 cw_1 cw_810
theorem cg_L_54_X12_begin : GoodIn cx_big (wsV "TreeMergeLaw" 54 "TreeMergeModel" yX12_begin (.code yX12_begin cX12_begin 2 (some .boolean) :: cx_big)) := cx_gV cw_1652 cw_1653 cw_1654 cw_13 cw_1655
theorem cg_L_55_X11_drop : GoodIn cx_big (wsV "TreeMergeLaw" 55 "TreeMerge" yX11_drop (.code yX11_drop cX11_drop 1 (some .boolean) :: cx_big)) := cx_gV cw_811 cw_812 cw_813 cw_1 cw_814
theorem cg_L_59_X12_drop : GoodIn cx_big (wsV "TreeMergeLaw" 59 "TreeMergeModel" yX12_drop (.code yX12_drop cX12_drop 1 (some .boolean) :: cx_big)) := cx_gV cw_1660 cw_1661 cw_1662 cw_13 cw_1663
theorem cg_L_62_X11_put : GoodIn cx_big (wsV "TreeMergeLaw" 62 "TreeMerge" yX11_put (.code yX11_put cX11_put 10 (some .int) :: cx_big)) := cx_gV cw_819 cw_820 cw_821 cw_1 cw_822
theorem cg_L_66_X12_put : GoodIn cx_big (wsV "TreeMergeLaw" 66 "TreeMergeModel" yX12_put (.code yX12_put cX12_put 7 (some .int) :: cx_big)) := cx_gV cw_1668 cw_1669 cw_1670 cw_13 cw_1671
theorem cg_L_67_X11_take : GoodIn cx_big (wsV "TreeMergeLaw" 67 "TreeMerge" yX11_take (.code yX11_take cX11_take 3 (some .boolean) :: cx_big)) := cx_gV cw_862 cw_863 cw_864 cw_1 cw_865
theorem cg_L_70_X12_take : GoodIn cx_big (wsV "TreeMergeLaw" 70 "TreeMergeModel" yX12_take (.code yX12_take cX12_take 3 (some .boolean) :: cx_big)) := cx_gV cw_1695 cw_1696 cw_1697 cw_13 cw_1698
theorem cg_L_71_X11_move : GoodIn cx_big (wsV "TreeMergeLaw" 71 "TreeMerge" yX11_move (.code yX11_move cX11_move 9 (some .boolean) :: cx_big)) := cx_gV cw_875 cw_876 cw_877 cw_1 cw_878
theorem cg_L_75_X12_move : GoodIn cx_big (wsV "TreeMergeLaw" 75 "TreeMergeModel" yX12_move (.code yX12_move cX12_move 6 (some .boolean) :: cx_big)) := cx_gV cw_1699 cw_1700 cw_1701 cw_13 cw_1702
theorem cg_L_76_X11_rename : GoodIn cx_big (wsV "TreeMergeLaw" 76 "TreeMerge" yX11_rename (.code yX11_rename cX11_rename 7 (some .boolean) :: cx_big)) := cx_gV cw_883 cw_884 cw_885 cw_1 cw_886
theorem cg_L_80_X12_rename : GoodIn cx_big (wsV "TreeMergeLaw" 80 "TreeMergeModel" yX12_rename (.code yX12_rename cX12_rename 4 (some .boolean) :: cx_big)) := cx_gV cw_1707 cw_1708 cw_1709 cw_13 cw_1710
theorem cg_L_81_X11_close : GoodIn cx_big (wsV "TreeMergeLaw" 81 "TreeMerge" yX11_close (.code yX11_close cX11_close 2 (some .int) :: cx_big)) := cx_gV cw_887 cw_888 cw_889 cw_1 cw_890
theorem cg_L_84_X12_close : GoodIn cx_big (wsV "TreeMergeLaw" 84 "TreeMergeModel" yX12_close (.code yX12_close cX12_close 1 (some .int) :: cx_big)) := cx_gV cw_1711 cw_1712 cw_1713 cw_13 cw_1714
theorem cg_L_85_X11_base : GoodIn cx_big (wsV "TreeMergeLaw" 85 "TreeMerge" yX11_base (.code yX11_base cX11_base 3 (some .int) :: cx_big)) := cx_gV cw_891 cw_892 cw_893 cw_1 cw_894
theorem cg_L_88_X12_base : GoodIn cx_big (wsV "TreeMergeLaw" 88 "TreeMergeModel" yX12_base (.code yX12_base cX12_base 4 (some .int) :: cx_big)) := cx_gV cw_1733 cw_1734 cw_1735 cw_13 cw_1736
theorem cg_L_89_X11_merge : GoodIn cx_big (wsV "TreeMergeLaw" 89 "TreeMerge" yX11_merge (.code yX11_merge cX11_merge 5 (some .int) :: cx_big)) := cx_gV cw_1046 cw_1047 cw_1048 cw_1 cw_1049
theorem cg_L_92_X12_merge : GoodIn cx_big (wsV "TreeMergeLaw" 92 "TreeMergeModel" yX12_merge (.code yX12_merge cX12_merge 4 (some .int) :: cx_big)) := cx_gV cw_1821 cw_1822 cw_1823 cw_13 cw_1824
theorem cg_L_93_X11_carry : GoodIn cx_big (wsV "TreeMergeLaw" 93 "TreeMerge" yX11_carry (.code yX11_carry cX11_carry 4 (some .int) :: cx_big)) := cx_gV cw_1062 cw_1063 cw_1064 cw_1 cw_1065
theorem cg_L_96_X12_carry : GoodIn cx_big (wsV "TreeMergeLaw" 96 "TreeMergeModel" yX12_carry (.code yX12_carry cX12_carry 3 (some .int) :: cx_big)) := cx_gV cw_1829 cw_1830 cw_1831 cw_13 cw_1832
theorem cg_L_97_X11_back : GoodIn cx_big (wsV "TreeMergeLaw" 97 "TreeMerge" yX11_back (.code yX11_back cX11_back 4 (some .int) :: cx_big)) := cx_gV cw_1070 cw_1071 cw_1072 cw_1 cw_1073
theorem cg_L_100_X12_back : GoodIn cx_big (wsV "TreeMergeLaw" 100 "TreeMergeModel" yX12_back (.code yX12_back cX12_back 3 (some .int) :: cx_big)) := cx_gV cw_1837 cw_1838 cw_1839 cw_13 cw_1840
theorem cg_L_101_X11_quarrel : GoodIn cx_big (wsV "TreeMergeLaw" 101 "TreeMerge" yX11_quarrel (.code yX11_quarrel cX11_quarrel 2 (some .int) :: cx_big)) := cx_gV cw_1074 cw_1075 cw_1076 cw_1 cw_1077
theorem cg_L_104_X12_quarrel : GoodIn cx_big (wsV "TreeMergeLaw" 104 "TreeMergeModel" yX12_quarrel (.code yX12_quarrel cX12_quarrel 2 (some .int) :: cx_big)) := cx_gV cw_1841 cw_1842 cw_1843 cw_13 cw_1844
theorem cg_L_105_X11_settle : GoodIn cx_big (wsV "TreeMergeLaw" 105 "TreeMerge" yX11_settle (.code yX11_settle cX11_settle 4 (some .boolean) :: cx_big)) := cx_gV cw_1078 cw_1079 cw_1080 cw_1 cw_1081
theorem cg_L_108_X12_settle : GoodIn cx_big (wsV "TreeMergeLaw" 108 "TreeMergeModel" yX12_settle (.code yX12_settle cX12_settle 5 (some .boolean) :: cx_big)) := cx_gV cw_1715 cw_1716 cw_1717 cw_13 cw_1718
theorem cg_L_109_X11_unsettle : GoodIn cx_big (wsV "TreeMergeLaw" 109 "TreeMerge" yX11_unsettle (.code yX11_unsettle cX11_unsettle 2 (some .int) :: cx_big)) := cx_gV cw_1086 cw_1087 cw_1088 cw_1 cw_1089
theorem cg_L_112_X12_unsettle : GoodIn cx_big (wsV "TreeMergeLaw" 112 "TreeMergeModel" yX12_unsettle (.code yX12_unsettle cX12_unsettle 2 (some .int) :: cx_big)) := cx_gV cw_1721 cw_1722 cw_1723 cw_13 cw_1724
theorem cg_L_113_X11_node : GoodIn cx_big (wsV "TreeMergeLaw" 113 "TreeMerge" yX11_node (.code yX11_node cX11_node 4 (some .int) :: cx_big)) := cx_gV cw_1094 cw_1095 cw_1096 cw_1 cw_1097
theorem cg_L_116_X12_node : GoodIn cx_big (wsV "TreeMergeLaw" 116 "TreeMergeModel" yX12_node (.code yX12_node cX12_node 6 (some .int) :: cx_big)) := cx_gV cw_1845 cw_1846 cw_1847 cw_13 cw_1848
theorem cg_L_117_X11_of : GoodIn cx_big (wsV "TreeMergeLaw" 117 "TreeMerge" yX11_of (.code yX11_of cX11_of 6 (some .int) :: cx_big)) := cx_gV cw_1098 cw_1099 cw_1100 cw_1 cw_1101
theorem cg_L_121_X12_of : GoodIn cx_big (wsV "TreeMergeLaw" 121 "TreeMergeModel" yX12_of (.code yX12_of cX12_of 4 (some .int) :: cx_big)) := cx_gV cw_1849 cw_1850 cw_1851 cw_13 cw_1852
theorem cg_L_122_X11_word : GoodIn cx_big (wsV "TreeMergeLaw" 122 "TreeMerge" yX11_word (.code yX11_word cX11_word 5 (some .long) :: cx_big)) := cx_gV cw_1116 cw_1117 cw_1118 cw_1 cw_1119
theorem cg_L_126_X12_word : GoodIn cx_big (wsV "TreeMergeLaw" 126 "TreeMergeModel" yX12_word (.code yX12_word cX12_word 3 (some .long) :: cx_big)) := cx_gV cw_1880 cw_1881 cw_1882 cw_13 cw_1883
theorem cg_L_127_X11_writer : GoodIn cx_big (wsV "TreeMergeLaw" 127 "TreeMerge" yX11_writer (.code yX11_writer cX11_writer 2 (some .int) :: cx_big)) := cx_gV cw_1124 cw_1125 cw_1126 cw_1 cw_1127
theorem cg_L_130_X12_writer : GoodIn cx_big (wsV "TreeMergeLaw" 130 "TreeMergeModel" yX12_writer (.code yX12_writer cX12_writer 2 (some .int) :: cx_big)) := cx_gV cw_1884 cw_1885 cw_1886 cw_13 cw_1887
theorem cg_L_131_X11_name : GoodIn cx_big (wsV "TreeMergeLaw" 131 "TreeMerge" yX11_name (.code yX11_name cX11_name 3 (some .int) :: cx_big)) := cx_gV cw_1131 cw_1132 cw_1133 cw_1 cw_1134
theorem cg_L_134_X12_name : GoodIn cx_big (wsV "TreeMergeLaw" 134 "TreeMergeModel" yX12_name (.code yX12_name cX12_name 2 (some .int) :: cx_big)) := cx_gV cw_1888 cw_1889 cw_1890 cw_13 cw_1891
theorem cg_L_135_X11_same : GoodIn cx_big (wsV "TreeMergeLaw" 135 "TreeMerge" yX11_same (.code yX11_same cX11_same 5 (some .boolean) :: cx_big)) := cx_gV cw_1135 cw_1136 cw_1137 cw_1 cw_1138
theorem cg_L_139_X12_same : GoodIn cx_big (wsV "TreeMergeLaw" 139 "TreeMergeModel" yX12_same (.code yX12_same cX12_same 3 (some .boolean) :: cx_big)) := cx_gV cw_1892 cw_1893 cw_1894 cw_13 cw_1895
theorem cg_L_140_X11_print : GoodIn cx_big (wsV "TreeMergeLaw" 140 "TreeMerge" yX11_print (.code yX11_print cX11_print 4 (some .int) :: cx_big)) := cx_gV cw_1140 cw_1141 cw_1142 cw_1 cw_1143
theorem cg_L_143_X12_print : GoodIn cx_big (wsV "TreeMergeLaw" 143 "TreeMergeModel" yX12_print (.code yX12_print cX12_print 3 (some .int) :: cx_big)) := cx_gV cw_1900 cw_1901 cw_1902 cw_13 cw_1903
theorem cg_L_144_X11_parent : GoodIn cx_big (wsV "TreeMergeLaw" 144 "TreeMerge" yX11_parent (.code yX11_parent cX11_parent 3 (some .int) :: cx_big)) := cx_gV cw_1169 cw_1170 cw_1171 cw_1 cw_1172
theorem cg_L_147_X12_parent : GoodIn cx_big (wsV "TreeMergeLaw" 147 "TreeMergeModel" yX12_parent (.code yX12_parent cX12_parent 3 (some .int) :: cx_big)) := cx_gV cw_1912 cw_1913 cw_1914 cw_13 cw_1915
theorem cg_L_148_X11_from : GoodIn cx_big (wsV "TreeMergeLaw" 148 "TreeMerge" yX11_from (.code yX11_from cX11_from 3 (some .boolean) :: cx_big)) := cx_gV cw_1173 cw_1174 cw_1175 cw_1 cw_1176
theorem cg_L_151_X12_from : GoodIn cx_big (wsV "TreeMergeLaw" 151 "TreeMergeModel" yX12_from (.code yX12_from cX12_from 3 (some .boolean) :: cx_big)) := cx_gV cw_1725 cw_1726 cw_1727 cw_13 cw_1728
theorem cg_L_152_X11_count : GoodIn cx_big (wsV "TreeMergeLaw" 152 "TreeMerge" yX11_count (.code yX11_count cX11_count 2 (some .int) :: cx_big)) := cx_gV cw_1177 cw_1178 cw_1179 cw_1 cw_1180
theorem cg_L_155_X12_count : GoodIn cx_big (wsV "TreeMergeLaw" 155 "TreeMergeModel" yX12_count (.code yX12_count cX12_count 2 (some .int) :: cx_big)) := cx_gV cw_1916 cw_1917 cw_1918 cw_13 cw_1919
set_option maxHeartbeats 4000000 in
set_option maxRecDepth 100000 in
theorem lop_0 {p : Program} {l : Launch} {e : Env} {s : State} {m : MethodId} {below : List Frame} {meth : Method} {c : Code} {D : va_G} {cs : Nat → ClassId} {A : Nat → Prop} {b Len : Nat} {xs : Nat → Int32} (hx : p.tables.exec = Jvm.exec) (hb : c.code = cL_law) (hr : meth.sig.returnType = ret) (hml : c.maxLocals = 4) (hB : ∀ w ∈ cx_big, w.before #[Value.ref b] s = true) (hown : s.vm.findClass "TreeMergeLaw" = some m.cls) (hlocks : meth.locks = false) (hK : va_K D vwCl (cx_TY cs) s) (hN : tw_NZ D A s s.heap) (hA : ∀ q : Nat, s.heap.size ≤ q → A q) (hA2 : ∀ q : Nat, A q → s.heap.size ≤ q) (hbA : ¬ A b) (hbl : b < s.heap.size) (hX : va_X b Len xs s s.heap) (hLen : Len ≤ 3072) {xq mq : Nat} {kp : Nat → Nat} {L : List Nat} {E : Nat → va_E} (i : Int32) (hi0 : 0 ≤ i.toInt) {cells slots : Nat} (hc : cells + 12 ≤ 600000) (hs : slots + 360 ≤ 7302250) {H : Heap} {locs : List Loc} {ls : Array Slot} (I : lv_I kp L E xq mq) (TH : tw_H D cs kp L E A H) (hS : va_S A s.heap H locs) (hl : lv_has ls 4 [(3, .int i), (2, .ref mq), (1, .ref xq), (0, .ref b)]) (hi1 : i.toInt + 6 ≤ Len) (kk : ∀ (kp1 : Nat → Nat) (L1 : List Nat) (E1 : Nat → va_E) (H1 : Heap) (locs1 : List Loc) (cells1 slots1 : Nat), cells1 ≤ cells + 12 → slots1 ≤ slots + 360 → lv_I kp1 L1 E1 xq mq → tw_H D cs kp1 L1 E1 A H1 → va_S A s.heap H1 locs1 → W p l e room_1 s m #[Value.ref b] below meth c H1 locs1 cells1 slots1 (lw_Z below #[Value.ref b] s) (F0 m 1178 ls [])) : W p l e room_1 s m #[Value.ref b] below meth c H locs cells slots (lw_Z below #[Value.ref b] s) (F0 m 176 ls []) := by
  obtain ⟨hmx, hkx, hmm, hkm, g1, g2, g3, ⟨r0, r1, r2, r3, r4, r5, r6, r7, r8, r9⟩, hJ⟩ := I
  have hJ0 := hJ
  refine lv_aload_n hx hb dL_law_176 rfl (lv_at hl 2 rfl) ?_
  refine lv_aload_n hx hb dL_law_177 rfl (lv_at hl 3 rfl) ?_
  refine lv_iload_n hx hb dL_law_178 rfl (lv_at hl 0 rfl) ?_
  refine lv_iconst (v := 1) hx hb dL_law_179 (by decide) ?_
  refine lv_iadd hx hb dL_law_180 ?_
  refine lv_topi (fun zi1 ezi1 => ?_)
  have hzi1 : zi1.toInt = i.toInt + 1 := by rw [ezi1]; have : ((1 : Int32).toInt) = 1 := (by decide); have := ia_lo i; have := ia_hi i; exact (ia_add (by omega) (by omega)).trans (by omega)
  have h_180 := trivial
  refine va_sld hx hb hX hbl hbA hS (i := zi1) (vp_in_iff.mpr ⟨by omega, by omega⟩) dL_law_181 ?_
  obtain ⟨xs2, exs2⟩ : ∃ z : Int32, xs (Int32.toNatClampNeg zi1) = z := ⟨_, rfl⟩
  rw [exs2]
  refine lv_aload_n hx hb dL_law_182 rfl (lv_at hl 3 rfl) ?_
  refine lv_iload_n hx hb dL_law_183 rfl (lv_at hl 0 rfl) ?_
  refine lv_iconst (v := 2) hx hb dL_law_184 (by decide) ?_
  refine lv_iadd hx hb dL_law_185 ?_
  refine lv_topi (fun zi3 ezi3 => ?_)
  have hzi3 : zi3.toInt = i.toInt + 2 := by rw [ezi3]; have : ((2 : Int32).toInt) = 2 := (by decide); have := ia_lo i; have := ia_hi i; exact (ia_add (by omega) (by omega)).trans (by omega)
  have h_185 := trivial
  refine va_sld hx hb hX hbl hbA hS (i := zi3) (vp_in_iff.mpr ⟨by omega, by omega⟩) dL_law_186 ?_
  obtain ⟨xs4, exs4⟩ : ∃ z : Int32, xs (Int32.toNatClampNeg zi3) = z := ⟨_, rfl⟩
  rw [exs4]
  refine lv_aload_n hx hb dL_law_187 rfl (lv_at hl 3 rfl) ?_
  refine lv_iload_n hx hb dL_law_188 rfl (lv_at hl 0 rfl) ?_
  refine lv_iconst (v := 3) hx hb dL_law_189 (by decide) ?_
  refine lv_iadd hx hb dL_law_190 ?_
  refine lv_topi (fun zi5 ezi5 => ?_)
  have hzi5 : zi5.toInt = i.toInt + 3 := by rw [ezi5]; have : ((3 : Int32).toInt) = 3 := (by decide); have := ia_lo i; have := ia_hi i; exact (ia_add (by omega) (by omega)).trans (by omega)
  have h_190 := trivial
  refine va_sld hx hb hX hbl hbA hS (i := zi5) (vp_in_iff.mpr ⟨by omega, by omega⟩) dL_law_191 ?_
  obtain ⟨xs6, exs6⟩ : ∃ z : Int32, xs (Int32.toNatClampNeg zi5) = z := ⟨_, rfl⟩
  rw [exs6]
  refine lv_aload_n hx hb dL_law_192 rfl (lv_at hl 3 rfl) ?_
  refine lv_iload_n hx hb dL_law_193 rfl (lv_at hl 0 rfl) ?_
  refine lv_iconst (v := 4) hx hb dL_law_194 (by decide) ?_
  refine lv_iadd hx hb dL_law_195 ?_
  refine lv_topi (fun zi7 ezi7 => ?_)
  have hzi7 : zi7.toInt = i.toInt + 4 := by rw [ezi7]; have : ((4 : Int32).toInt) = 4 := (by decide); have := ia_lo i; have := ia_hi i; exact (ia_add (by omega) (by omega)).trans (by omega)
  have h_195 := trivial
  refine va_sld hx hb hX hbl hbA hS (i := zi7) (vp_in_iff.mpr ⟨by omega, by omega⟩) dL_law_196 ?_
  obtain ⟨xs8, exs8⟩ : ∃ z : Int32, xs (Int32.toNatClampNeg zi7) = z := ⟨_, rfl⟩
  rw [exs8]
  refine lv_aload_n hx hb dL_law_197 rfl (lv_at hl 3 rfl) ?_
  refine lv_iload_n hx hb dL_law_198 rfl (lv_at hl 0 rfl) ?_
  refine lv_iconst (v := 5) hx hb dL_law_199 (by decide) ?_
  refine lv_iadd hx hb dL_law_200 ?_
  refine lv_topi (fun zi9 ezi9 => ?_)
  have hzi9 : zi9.toInt = i.toInt + 5 := by rw [ezi9]; have : ((5 : Int32).toInt) = 5 := (by decide); have := ia_lo i; have := ia_hi i; exact (ia_add (by omega) (by omega)).trans (by omega)
  have h_200 := trivial
  refine va_sld hx hb hX hbl hbA hS (i := zi9) (vp_in_iff.mpr ⟨by omega, by omega⟩) dL_law_201 ?_
  obtain ⟨xs10, exs10⟩ : ∃ z : Int32, xs (Int32.toNatClampNeg zi9) = z := ⟨_, rfl⟩
  rw [exs10]
  obtain ⟨xi11, hxi11, hxi11a, hxi11b⟩ := tw_rd TH hmm hkm (by decide) (by decide) (k := 1) rfl
  obtain ⟨xi12, hxi12, hxi12a, hxi12b⟩ := tw_rd TH hmm hkm (by decide) (by decide) (k := 14) rfl
  have TH0 := TH
  have hT0 := TH.2.2
  refine tw_Vc (o := xq) (ci := 11) (n := 5) (post := (fun v kq Lq Eq => (∃ x : Int32, v = some (.int x) ∧ ((tw_fi E (tw_fa E xq 0) 1) ≤ 480 → tw_fi Eq (tw_fa E xq 0) 1 = (tw_fi E (tw_fa E xq 0) 1) + 20 ∧ tw_el Eq (tw_fa E xq 0) 0 = fd5 by_c xs2.toInt xs4.toInt xs6.toInt xs8.toInt xs10.toInt (tw_el E (tw_fa E xq 0) 0) (tw_fi E (tw_fa E xq 0) 1)) ∧ (480 < (tw_fi E (tw_fa E xq 0) 1) → tw_fi Eq (tw_fa E xq 0) 1 = (tw_fi E (tw_fa E xq 0) 1) ∧ tw_el Eq (tw_fa E xq 0) 0 = tw_el E (tw_fa E xq 0) 0)) ∧ kp = kq ∧ L = Lq ∧ tw_fr kp L [(9, 1)] [100] E Eq)) (As := [.int xs2, .int xs4, .int xs6, .int xs8, .int xs10]) (rest := []) ⟨hx, hb, hml, hown, hB⟩ (fun sz => tX11_feed_vG l D cs xq xs2 xs4 xs6 xs8 xs10 hmx hkx sz) cg_L_13_X11_feed rfl rfl (by decide +kernel) ⟨Nat.le_of_ble_eq_true rfl, Nat.le_of_ble_eq_true rfl⟩ hK hN TH hS hA rfl hmx hkx (by decide) rfl hl.1 rfl (Nat.le_of_ble_eq_true rfl) dL_law_202 ⟨(by show _ ≤ 600000; omega), (by show _ ≤ 7302250; omega)⟩ (fun v13 kp13 L13 E13 H locs hq13 hx13 TH hS => ?_)
  obtain ⟨⟨xc14, rfl, hpoxc14_0, hpoxc14_1⟩, rfl, rfl, hst13⟩ := hq13
  have hmf15 : tw_fv E13 mq 1 = .int xi11 := (hst13.1 mq 1 hmm (by rw [hkm]; decide)).trans hxi11
  have hmf16 : tw_fv E13 mq 14 = .int xi12 := (hst13.1 mq 14 hmm (by rw [hkm]; decide)).trans hxi12
  have g1 : gz_ok E13 xq := gz_ok_fr TH hst13 hmx hkx (by decide) (by decide) g1
  have g2 : ss_ok E13 xq := ss_ok_fr TH hst13 hmx hkx (by decide) (by decide) g2
  have g3 : ac_ok E13 xq := ac_ok_fr TH hst13 hmx hkx (by decide) (by decide) g3
  have r0 : rd_ok E13 mq := rd_ok_fr TH hst13 hmm hkm (by decide) (by decide) r0
  have r1 : eo_ok E13 mq := eo_ok_fr TH hst13 hmm hkm (by decide) (by decide) r1
  have r2 : ht_ok E13 mq := ht_ok_fr TH hst13 hmm hkm (by decide) (by decide) r2
  have r3 : dr_ok E13 mq := dr_ok_fr TH hst13 hmm hkm (by decide) (by decide) r3
  have r4 : ln_ok E13 mq := ln_ok_fr TH hst13 hmm hkm (by decide) (by decide) r4
  have r5 : dl_ok E13 mq := dl_ok_fr TH hst13 hmm hkm (by decide) (by decide) r5
  have r6 : fw_ok E13 mq := fw_ok_fr TH hst13 hmm hkm (by decide) (by decide) r6
  have r7 : kg_ok E13 mq := kg_ok_fr TH hst13 hmm hkm (by decide) (by decide) r7
  have r8 : sd_ok E13 mq := sd_ok_fr TH hst13 hmm hkm (by decide) (by decide) r8
  have r9 : rg_ok E13 mq := rg_ok_fr TH hst13 hmm hkm (by decide) (by decide) r9
  refine W.eq (g2 := F0 m 205 ls [.int xc14]) rfl ?_
  refine lv_pop hx hb dL_law_205 rfl ?_
  refine lv_aload_n hx hb dL_law_206 rfl (lv_at hl 1 rfl) ?_
  refine lv_aload_n hx hb dL_law_207 rfl (lv_at hl 3 rfl) ?_
  refine lv_iload_n hx hb dL_law_208 rfl (lv_at hl 0 rfl) ?_
  refine lv_iconst (v := 1) hx hb dL_law_209 (by decide) ?_
  refine lv_iadd hx hb dL_law_210 ?_
  refine lv_topi (fun zi17 ezi17 => ?_)
  have hzi17 : zi17.toInt = i.toInt + 1 := by rw [ezi17]; have : ((1 : Int32).toInt) = 1 := (by decide); have := ia_lo i; have := ia_hi i; exact (ia_add (by omega) (by omega)).trans (by omega)
  have h_210 := trivial
  refine va_sld hx hb hX hbl hbA hS (i := zi17) (vp_in_iff.mpr ⟨by omega, by omega⟩) dL_law_211 ?_
  obtain ⟨xs18, exs18⟩ : ∃ z : Int32, xs (Int32.toNatClampNeg zi17) = z := ⟨_, rfl⟩
  rw [exs18]
  have qxs18 : xs2 = xs18 := by rw [← exs18, ← exs2, ia_ext (a := zi17) (b := zi1) (by omega)]
  subst qxs18
  refine lv_aload_n hx hb dL_law_212 rfl (lv_at hl 3 rfl) ?_
  refine lv_iload_n hx hb dL_law_213 rfl (lv_at hl 0 rfl) ?_
  refine lv_iconst (v := 2) hx hb dL_law_214 (by decide) ?_
  refine lv_iadd hx hb dL_law_215 ?_
  refine lv_topi (fun zi19 ezi19 => ?_)
  have hzi19 : zi19.toInt = i.toInt + 2 := by rw [ezi19]; have : ((2 : Int32).toInt) = 2 := (by decide); have := ia_lo i; have := ia_hi i; exact (ia_add (by omega) (by omega)).trans (by omega)
  have h_215 := trivial
  refine va_sld hx hb hX hbl hbA hS (i := zi19) (vp_in_iff.mpr ⟨by omega, by omega⟩) dL_law_216 ?_
  obtain ⟨xs20, exs20⟩ : ∃ z : Int32, xs (Int32.toNatClampNeg zi19) = z := ⟨_, rfl⟩
  rw [exs20]
  have qxs20 : xs4 = xs20 := by rw [← exs20, ← exs4, ia_ext (a := zi19) (b := zi3) (by omega)]
  subst qxs20
  refine lv_aload_n hx hb dL_law_217 rfl (lv_at hl 3 rfl) ?_
  refine lv_iload_n hx hb dL_law_218 rfl (lv_at hl 0 rfl) ?_
  refine lv_iconst (v := 3) hx hb dL_law_219 (by decide) ?_
  refine lv_iadd hx hb dL_law_220 ?_
  refine lv_topi (fun zi21 ezi21 => ?_)
  have hzi21 : zi21.toInt = i.toInt + 3 := by rw [ezi21]; have : ((3 : Int32).toInt) = 3 := (by decide); have := ia_lo i; have := ia_hi i; exact (ia_add (by omega) (by omega)).trans (by omega)
  have h_220 := trivial
  refine va_sld hx hb hX hbl hbA hS (i := zi21) (vp_in_iff.mpr ⟨by omega, by omega⟩) dL_law_221 ?_
  obtain ⟨xs22, exs22⟩ : ∃ z : Int32, xs (Int32.toNatClampNeg zi21) = z := ⟨_, rfl⟩
  rw [exs22]
  have qxs22 : xs6 = xs22 := by rw [← exs22, ← exs6, ia_ext (a := zi21) (b := zi5) (by omega)]
  subst qxs22
  refine lv_aload_n hx hb dL_law_222 rfl (lv_at hl 3 rfl) ?_
  refine lv_iload_n hx hb dL_law_223 rfl (lv_at hl 0 rfl) ?_
  refine lv_iconst (v := 4) hx hb dL_law_224 (by decide) ?_
  refine lv_iadd hx hb dL_law_225 ?_
  refine lv_topi (fun zi23 ezi23 => ?_)
  have hzi23 : zi23.toInt = i.toInt + 4 := by rw [ezi23]; have : ((4 : Int32).toInt) = 4 := (by decide); have := ia_lo i; have := ia_hi i; exact (ia_add (by omega) (by omega)).trans (by omega)
  have h_225 := trivial
  refine va_sld hx hb hX hbl hbA hS (i := zi23) (vp_in_iff.mpr ⟨by omega, by omega⟩) dL_law_226 ?_
  obtain ⟨xs24, exs24⟩ : ∃ z : Int32, xs (Int32.toNatClampNeg zi23) = z := ⟨_, rfl⟩
  rw [exs24]
  have qxs24 : xs8 = xs24 := by rw [← exs24, ← exs8, ia_ext (a := zi23) (b := zi7) (by omega)]
  subst qxs24
  refine lv_aload_n hx hb dL_law_227 rfl (lv_at hl 3 rfl) ?_
  refine lv_iload_n hx hb dL_law_228 rfl (lv_at hl 0 rfl) ?_
  refine lv_iconst (v := 5) hx hb dL_law_229 (by decide) ?_
  refine lv_iadd hx hb dL_law_230 ?_
  refine lv_topi (fun zi25 ezi25 => ?_)
  have hzi25 : zi25.toInt = i.toInt + 5 := by rw [ezi25]; have : ((5 : Int32).toInt) = 5 := (by decide); have := ia_lo i; have := ia_hi i; exact (ia_add (by omega) (by omega)).trans (by omega)
  have h_230 := trivial
  refine va_sld hx hb hX hbl hbA hS (i := zi25) (vp_in_iff.mpr ⟨by omega, by omega⟩) dL_law_231 ?_
  obtain ⟨xs26, exs26⟩ : ∃ z : Int32, xs (Int32.toNatClampNeg zi25) = z := ⟨_, rfl⟩
  rw [exs26]
  have qxs26 : xs10 = xs26 := by rw [← exs26, ← exs10, ia_ext (a := zi25) (b := zi9) (by omega)]
  subst qxs26
  have TH1 := TH
  have hT1 := TH.2.2
  refine tw_Vc (o := mq) (ci := 12) (n := 5) (post := (fun v kq Lq Eq => (∃ x : Int32, v = some (.int x) ∧ (xi11.toInt ≤ 480 → tw_fi Eq mq 1 = xi11.toInt + 20 ∧ tw_el Eq mq 0 = fd5 by_r xs2.toInt xs4.toInt xs6.toInt xs8.toInt xs10.toInt (tw_el E13 mq 0) xi11.toInt) ∧ (480 < xi11.toInt → tw_fi Eq mq 1 = xi11.toInt ∧ tw_el Eq mq 0 = tw_el E13 mq 0)) ∧ kp = kq ∧ L = Lq ∧ tw_fr kp L [(12, 1)] [300] E13 Eq)) (As := [.int xs2, .int xs4, .int xs6, .int xs8, .int xs10]) (rest := []) ⟨hx, hb, hml, hown, hB⟩ (fun sz => tX12_feed_vG l D cs mq xs2 xs4 xs6 xs8 xs10 xi11 hmm hkm hmf15 sz) cg_L_17_X12_feed rfl rfl (by decide +kernel) ⟨Nat.le_of_ble_eq_true rfl, Nat.le_of_ble_eq_true rfl⟩ hK hN TH hS hA rfl hmm hkm (by decide) rfl hl.1 rfl (Nat.le_of_ble_eq_true rfl) dL_law_232 ⟨(by show _ ≤ 600000; omega), (by show _ ≤ 7302250; omega)⟩ (fun v27 kp27 L27 E27 H locs hq27 hx27 TH hS => ?_)
  obtain ⟨⟨xc28, rfl, hpoxc28_0, hpoxc28_1⟩, rfl, rfl, hst27⟩ := hq27
  have hmf29 : tw_fv E27 mq 14 = .int xi12 := (hst27.1 mq 14 hmm (by rw [hkm]; decide)).trans hmf16
  have g1 : gz_ok E27 xq := gz_ok_fr TH hst27 hmx hkx (by decide) (by decide) g1
  have g2 : ss_ok E27 xq := ss_ok_fr TH hst27 hmx hkx (by decide) (by decide) g2
  have g3 : ac_ok E27 xq := ac_ok_fr TH hst27 hmx hkx (by decide) (by decide) g3
  have r0 : rd_ok E27 mq := rd_ok_fr TH hst27 hmm hkm (by decide) (by decide) r0
  have r1 : eo_ok E27 mq := eo_ok_fr TH hst27 hmm hkm (by decide) (by decide) r1
  have r2 : ht_ok E27 mq := ht_ok_fr TH hst27 hmm hkm (by decide) (by decide) r2
  have r3 : dr_ok E27 mq := dr_ok_fr TH hst27 hmm hkm (by decide) (by decide) r3
  have r4 : ln_ok E27 mq := ln_ok_fr TH hst27 hmm hkm (by decide) (by decide) r4
  have r5 : dl_ok E27 mq := dl_ok_fr TH hst27 hmm hkm (by decide) (by decide) r5
  have r6 : fw_ok E27 mq := fw_ok_fr TH hst27 hmm hkm (by decide) (by decide) r6
  have r7 : kg_ok E27 mq := kg_ok_fr TH hst27 hmm hkm (by decide) (by decide) r7
  have r8 : sd_ok E27 mq := sd_ok_fr TH hst27 hmm hkm (by decide) (by decide) r8
  have r9 : rg_ok E27 mq := rg_ok_fr TH hst27 hmm hkm (by decide) (by decide) r9
  refine W.eq (g2 := F0 m 235 ls [.int xc28]) rfl ?_
  refine lv_pop hx hb dL_law_235 rfl ?_
  refine lv_goto (tgt := 1178) hx hb dL_law_236 (by decide) ?_
  have hJ2 : lj_ok E27 xq mq := lj_feed hT0 hT1 hst13 hst27 hmx hkx hmm hkm (by decide) (by decide) (by decide) (by decide) hJ0 hpoxc14_0 hpoxc14_1 (tw_fi_of hmf15) hpoxc28_0 hpoxc28_1
  exact kk _ _ _ _ _ _ _ (by omega) (by omega) ⟨hmx, hkx, hmm, hkm, g1, g2, g3, ⟨r0, r1, r2, r3, r4, r5, r6, r7, r8, r9⟩, hJ2⟩ TH hS
set_option maxHeartbeats 4000000 in
set_option maxRecDepth 100000 in
theorem lop_1 {p : Program} {l : Launch} {e : Env} {s : State} {m : MethodId} {below : List Frame} {meth : Method} {c : Code} {D : va_G} {cs : Nat → ClassId} {A : Nat → Prop} {b Len : Nat} {xs : Nat → Int32} (hx : p.tables.exec = Jvm.exec) (hb : c.code = cL_law) (hr : meth.sig.returnType = ret) (hml : c.maxLocals = 4) (hB : ∀ w ∈ cx_big, w.before #[Value.ref b] s = true) (hown : s.vm.findClass "TreeMergeLaw" = some m.cls) (hlocks : meth.locks = false) (hK : va_K D vwCl (cx_TY cs) s) (hN : tw_NZ D A s s.heap) (hA : ∀ q : Nat, s.heap.size ≤ q → A q) (hA2 : ∀ q : Nat, A q → s.heap.size ≤ q) (hbA : ¬ A b) (hbl : b < s.heap.size) (hX : va_X b Len xs s s.heap) (hLen : Len ≤ 3072) {xq mq : Nat} {kp : Nat → Nat} {L : List Nat} {E : Nat → va_E} (i : Int32) (hi0 : 0 ≤ i.toInt) {cells slots : Nat} (hc : cells + 12 ≤ 600000) (hs : slots + 360 ≤ 7302250) {H : Heap} {locs : List Loc} {ls : Array Slot} (I : lv_I kp L E xq mq) (TH : tw_H D cs kp L E A H) (hS : va_S A s.heap H locs) (hl : lv_has ls 4 [(3, .int i), (2, .ref mq), (1, .ref xq), (0, .ref b)]) (hi1 : i.toInt + 6 ≤ Len) (kk : ∀ (kp1 : Nat → Nat) (L1 : List Nat) (E1 : Nat → va_E) (H1 : Heap) (locs1 : List Loc) (cells1 slots1 : Nat), cells1 ≤ cells + 12 → slots1 ≤ slots + 360 → lv_I kp1 L1 E1 xq mq → tw_H D cs kp1 L1 E1 A H1 → va_S A s.heap H1 locs1 → W p l e room_1 s m #[Value.ref b] below meth c H1 locs1 cells1 slots1 (lw_Z below #[Value.ref b] s) (F0 m 1178 ls [])) : W p l e room_1 s m #[Value.ref b] below meth c H locs cells slots (lw_Z below #[Value.ref b] s) (F0 m 239 ls []) := by
  obtain ⟨hmx, hkx, hmm, hkm, g1, g2, g3, ⟨r0, r1, r2, r3, r4, r5, r6, r7, r8, r9⟩, hJ⟩ := I
  have hJ0 := hJ
  refine lv_aload_n hx hb dL_law_239 rfl (lv_at hl 2 rfl) ?_
  refine lv_aload_n hx hb dL_law_240 rfl (lv_at hl 3 rfl) ?_
  refine lv_iload_n hx hb dL_law_241 rfl (lv_at hl 0 rfl) ?_
  refine lv_iconst (v := 1) hx hb dL_law_242 (by decide) ?_
  refine lv_iadd hx hb dL_law_243 ?_
  refine lv_topi (fun zi1 ezi1 => ?_)
  have hzi1 : zi1.toInt = i.toInt + 1 := by rw [ezi1]; have : ((1 : Int32).toInt) = 1 := (by decide); have := ia_lo i; have := ia_hi i; exact (ia_add (by omega) (by omega)).trans (by omega)
  have h_243 := trivial
  refine va_sld hx hb hX hbl hbA hS (i := zi1) (vp_in_iff.mpr ⟨by omega, by omega⟩) dL_law_244 ?_
  obtain ⟨xs2, exs2⟩ : ∃ z : Int32, xs (Int32.toNatClampNeg zi1) = z := ⟨_, rfl⟩
  rw [exs2]
  obtain ⟨xi3, hxi3, hxi3a, hxi3b⟩ := tw_rd TH hmm hkm (by decide) (by decide) (k := 1) rfl
  obtain ⟨xi4, hxi4, hxi4a, hxi4b⟩ := tw_rd TH hmm hkm (by decide) (by decide) (k := 14) rfl
  have TH0 := TH
  have hT0 := TH.2.2
  refine tw_Vc (o := xq) (ci := 11) (n := 1) (post := (fun v kq Lq Eq => (∃ x : Int32, v = some (.int x) ∧ 0 ≤ x.toInt ∧ x.toInt ≤ 1 ∧ ((0 ≤ xs2.toInt ∧ xs2.toInt ≤ (tw_fi E (tw_fa E xq 0) 1) → tw_fi Eq (tw_fa E xq 0) 1 = xs2.toInt) ∧ (¬ (0 ≤ xs2.toInt ∧ xs2.toInt ≤ (tw_fi E (tw_fa E xq 0) 1)) → tw_fi Eq (tw_fa E xq 0) 1 = (tw_fi E (tw_fa E xq 0) 1)))) ∧ kp = kq ∧ L = Lq ∧ tw_fr kp L [(9, 1)] [] E Eq)) (As := [.int xs2]) (rest := []) ⟨hx, hb, hml, hown, hB⟩ (fun sz => tX11_end_vG l D cs xq xs2 hmx hkx sz) cg_L_18_X11_end rfl rfl (by decide +kernel) ⟨Nat.le_of_ble_eq_true rfl, Nat.le_of_ble_eq_true rfl⟩ hK hN TH hS hA rfl hmx hkx (by decide) rfl hl.1 rfl (Nat.le_of_ble_eq_true rfl) dL_law_245 ⟨(by show _ ≤ 600000; omega), (by show _ ≤ 7302250; omega)⟩ (fun v5 kp5 L5 E5 H locs hq5 hx5 TH hS => ?_)
  obtain ⟨⟨xc6, rfl, hxc6a, hxc6b, hpoxc6_0⟩, rfl, rfl, hst5⟩ := hq5
  have hmf7 : tw_fv E5 mq 1 = .int xi3 := (hst5.1 mq 1 hmm (by rw [hkm]; decide)).trans hxi3
  have hmf8 : tw_fv E5 mq 14 = .int xi4 := (hst5.1 mq 14 hmm (by rw [hkm]; decide)).trans hxi4
  have g1 : gz_ok E5 xq := gz_ok_fr TH hst5 hmx hkx (by decide) (by decide) g1
  have g2 : ss_ok E5 xq := ss_ok_fr TH hst5 hmx hkx (by decide) (by decide) g2
  have g3 : ac_ok E5 xq := ac_ok_fr TH hst5 hmx hkx (by decide) (by decide) g3
  have r0 : rd_ok E5 mq := rd_ok_fr TH hst5 hmm hkm (by decide) (by decide) r0
  have r1 : eo_ok E5 mq := eo_ok_fr TH hst5 hmm hkm (by decide) (by decide) r1
  have r2 : ht_ok E5 mq := ht_ok_fr TH hst5 hmm hkm (by decide) (by decide) r2
  have r3 : dr_ok E5 mq := dr_ok_fr TH hst5 hmm hkm (by decide) (by decide) r3
  have r4 : ln_ok E5 mq := ln_ok_fr TH hst5 hmm hkm (by decide) (by decide) r4
  have r5 : dl_ok E5 mq := dl_ok_fr TH hst5 hmm hkm (by decide) (by decide) r5
  have r6 : fw_ok E5 mq := fw_ok_fr TH hst5 hmm hkm (by decide) (by decide) r6
  have r7 : kg_ok E5 mq := kg_ok_fr TH hst5 hmm hkm (by decide) (by decide) r7
  have r8 : sd_ok E5 mq := sd_ok_fr TH hst5 hmm hkm (by decide) (by decide) r8
  have r9 : rg_ok E5 mq := rg_ok_fr TH hst5 hmm hkm (by decide) (by decide) r9
  refine W.eq (g2 := F0 m 248 ls [.int xc6]) rfl ?_
  refine lv_pop hx hb dL_law_248 rfl ?_
  refine lv_aload_n hx hb dL_law_249 rfl (lv_at hl 1 rfl) ?_
  refine lv_aload_n hx hb dL_law_250 rfl (lv_at hl 3 rfl) ?_
  refine lv_iload_n hx hb dL_law_251 rfl (lv_at hl 0 rfl) ?_
  refine lv_iconst (v := 1) hx hb dL_law_252 (by decide) ?_
  refine lv_iadd hx hb dL_law_253 ?_
  refine lv_topi (fun zi9 ezi9 => ?_)
  have hzi9 : zi9.toInt = i.toInt + 1 := by rw [ezi9]; have : ((1 : Int32).toInt) = 1 := (by decide); have := ia_lo i; have := ia_hi i; exact (ia_add (by omega) (by omega)).trans (by omega)
  have h_253 := trivial
  refine va_sld hx hb hX hbl hbA hS (i := zi9) (vp_in_iff.mpr ⟨by omega, by omega⟩) dL_law_254 ?_
  obtain ⟨xs10, exs10⟩ : ∃ z : Int32, xs (Int32.toNatClampNeg zi9) = z := ⟨_, rfl⟩
  rw [exs10]
  have qxs10 : xs2 = xs10 := by rw [← exs10, ← exs2, ia_ext (a := zi9) (b := zi1) (by omega)]
  subst qxs10
  have TH1 := TH
  have hT1 := TH.2.2
  refine tw_Vc (o := mq) (ci := 12) (n := 1) (post := (fun v kq Lq Eq => (∃ x : Int32, v = some (.int x) ∧ 0 ≤ x.toInt ∧ x.toInt ≤ 1 ∧ ((0 ≤ xs2.toInt ∧ xs2.toInt ≤ xi3.toInt → tw_fi Eq mq 1 = xs2.toInt) ∧ (¬ (0 ≤ xs2.toInt ∧ xs2.toInt ≤ xi3.toInt) → tw_fi Eq mq 1 = xi3.toInt))) ∧ kp = kq ∧ L = Lq ∧ tw_fr kp L [(12, 1)] [] E5 Eq)) (As := [.int xs2]) (rest := []) ⟨hx, hb, hml, hown, hB⟩ (fun sz => tX12_end_vG l D cs mq xs2 xi3 hmm hkm hmf7 sz) cg_L_22_X12_end rfl rfl (by decide +kernel) ⟨Nat.le_of_ble_eq_true rfl, Nat.le_of_ble_eq_true rfl⟩ hK hN TH hS hA rfl hmm hkm (by decide) rfl hl.1 rfl (Nat.le_of_ble_eq_true rfl) dL_law_255 ⟨(by show _ ≤ 600000; omega), (by show _ ≤ 7302250; omega)⟩ (fun v11 kp11 L11 E11 H locs hq11 hx11 TH hS => ?_)
  obtain ⟨⟨xc12, rfl, hxc12a, hxc12b, hpoxc12_0⟩, rfl, rfl, hst11⟩ := hq11
  have hmf13 : tw_fv E11 mq 14 = .int xi4 := (hst11.1 mq 14 hmm (by rw [hkm]; decide)).trans hmf8
  have g1 : gz_ok E11 xq := gz_ok_fr TH hst11 hmx hkx (by decide) (by decide) g1
  have g2 : ss_ok E11 xq := ss_ok_fr TH hst11 hmx hkx (by decide) (by decide) g2
  have g3 : ac_ok E11 xq := ac_ok_fr TH hst11 hmx hkx (by decide) (by decide) g3
  have r0 : rd_ok E11 mq := rd_ok_fr TH hst11 hmm hkm (by decide) (by decide) r0
  have r1 : eo_ok E11 mq := eo_ok_fr TH hst11 hmm hkm (by decide) (by decide) r1
  have r2 : ht_ok E11 mq := ht_ok_fr TH hst11 hmm hkm (by decide) (by decide) r2
  have r3 : dr_ok E11 mq := dr_ok_fr TH hst11 hmm hkm (by decide) (by decide) r3
  have r4 : ln_ok E11 mq := ln_ok_fr TH hst11 hmm hkm (by decide) (by decide) r4
  have r5 : dl_ok E11 mq := dl_ok_fr TH hst11 hmm hkm (by decide) (by decide) r5
  have r6 : fw_ok E11 mq := fw_ok_fr TH hst11 hmm hkm (by decide) (by decide) r6
  have r7 : kg_ok E11 mq := kg_ok_fr TH hst11 hmm hkm (by decide) (by decide) r7
  have r8 : sd_ok E11 mq := sd_ok_fr TH hst11 hmm hkm (by decide) (by decide) r8
  have r9 : rg_ok E11 mq := rg_ok_fr TH hst11 hmm hkm (by decide) (by decide) r9
  refine W.eq (g2 := F0 m 258 ls [.int xc12]) rfl ?_
  refine lv_pop hx hb dL_law_258 rfl ?_
  refine lv_goto (tgt := 1178) hx hb dL_law_259 (by decide) ?_
  have hJ2 : lj_ok E11 xq mq := lj_len hT0 hT1 (fun _ h => ⟨h, rfl⟩) hst5 hst11 hmx hkx hmm hkm (by decide) (by decide) (by decide) (by decide) hJ0 (fun q1 q2 q3 => (by have e1 := tw_fi_fr hst5 hmm hkm (k := 1) (by decide); have e2 := tw_fi_of hmf7; have C0 := hpoxc6_0; have R0 := hpoxc12_0; have q3 : tw_fi E (tw_fa E xq 0) 1 = tw_fi E mq 1 := q3; (by_cases z : 0 ≤ xs2.toInt ∧ xs2.toInt ≤ tw_fi E (tw_fa E xq 0) 1; (have u := C0.1 z; have v := R0.1 (by omega); exact ⟨by omega, by omega⟩); (have u := C0.2 z; have v := R0.2 (by omega); exact ⟨by omega, by omega⟩))))
  exact kk _ _ _ _ _ _ _ (by omega) (by omega) ⟨hmx, hkx, hmm, hkm, g1, g2, g3, ⟨r0, r1, r2, r3, r4, r5, r6, r7, r8, r9⟩, hJ2⟩ TH hS
set_option maxHeartbeats 4000000 in
set_option maxRecDepth 100000 in
theorem lop_2 {p : Program} {l : Launch} {e : Env} {s : State} {m : MethodId} {below : List Frame} {meth : Method} {c : Code} {D : va_G} {cs : Nat → ClassId} {A : Nat → Prop} {b Len : Nat} {xs : Nat → Int32} (hx : p.tables.exec = Jvm.exec) (hb : c.code = cL_law) (hr : meth.sig.returnType = ret) (hml : c.maxLocals = 4) (hB : ∀ w ∈ cx_big, w.before #[Value.ref b] s = true) (hown : s.vm.findClass "TreeMergeLaw" = some m.cls) (hlocks : meth.locks = false) (hK : va_K D vwCl (cx_TY cs) s) (hN : tw_NZ D A s s.heap) (hA : ∀ q : Nat, s.heap.size ≤ q → A q) (hA2 : ∀ q : Nat, A q → s.heap.size ≤ q) (hbA : ¬ A b) (hbl : b < s.heap.size) (hX : va_X b Len xs s s.heap) (hLen : Len ≤ 3072) {xq mq : Nat} {kp : Nat → Nat} {L : List Nat} {E : Nat → va_E} (i : Int32) (hi0 : 0 ≤ i.toInt) {cells slots : Nat} (hc : cells + 12 ≤ 600000) (hs : slots + 360 ≤ 7302250) {H : Heap} {locs : List Loc} {ls : Array Slot} (I : lv_I kp L E xq mq) (TH : tw_H D cs kp L E A H) (hS : va_S A s.heap H locs) (hl : lv_has ls 4 [(3, .int i), (2, .ref mq), (1, .ref xq), (0, .ref b)]) (hi1 : i.toInt + 6 ≤ Len) (kk : ∀ (kp1 : Nat → Nat) (L1 : List Nat) (E1 : Nat → va_E) (H1 : Heap) (locs1 : List Loc) (cells1 slots1 : Nat), cells1 ≤ cells + 12 → slots1 ≤ slots + 360 → lv_I kp1 L1 E1 xq mq → tw_H D cs kp1 L1 E1 A H1 → va_S A s.heap H1 locs1 → W p l e room_1 s m #[Value.ref b] below meth c H1 locs1 cells1 slots1 (lw_Z below #[Value.ref b] s) (F0 m 1178 ls [])) : W p l e room_1 s m #[Value.ref b] below meth c H locs cells slots (lw_Z below #[Value.ref b] s) (F0 m 262 ls []) := by
  obtain ⟨hmx, hkx, hmm, hkm, g1, g2, g3, ⟨r0, r1, r2, r3, r4, r5, r6, r7, r8, r9⟩, hJ⟩ := I
  have hJ0 := hJ
  refine lv_aload_n hx hb dL_law_262 rfl (lv_at hl 2 rfl) ?_
  refine lv_aload_n hx hb dL_law_263 rfl (lv_at hl 3 rfl) ?_
  refine lv_iload_n hx hb dL_law_264 rfl (lv_at hl 0 rfl) ?_
  refine lv_iconst (v := 1) hx hb dL_law_265 (by decide) ?_
  refine lv_iadd hx hb dL_law_266 ?_
  refine lv_topi (fun zi1 ezi1 => ?_)
  have hzi1 : zi1.toInt = i.toInt + 1 := by rw [ezi1]; have : ((1 : Int32).toInt) = 1 := (by decide); have := ia_lo i; have := ia_hi i; exact (ia_add (by omega) (by omega)).trans (by omega)
  have h_266 := trivial
  refine va_sld hx hb hX hbl hbA hS (i := zi1) (vp_in_iff.mpr ⟨by omega, by omega⟩) dL_law_267 ?_
  obtain ⟨xs2, exs2⟩ : ∃ z : Int32, xs (Int32.toNatClampNeg zi1) = z := ⟨_, rfl⟩
  rw [exs2]
  refine lv_if_eq (tgt := 275) hx hb dL_law_268 (by decide) (fun hc3 => ?_) (fun hc3 => ?_)
  · have hf4 : xs2.toInt = 0 := by have z := (fa_eq _ _).mp hc3; have : ((0 : Int32).toInt) = 0 := (by decide); omega
    refine lv_iconst (v := 0) hx hb dL_law_275 (by decide) ?_
    obtain ⟨xi5, hxi5, hxi5a, hxi5b⟩ := tw_rd TH hmm hkm (by decide) (by decide) (k := 1) rfl
    obtain ⟨xi6, hxi6, hxi6a, hxi6b⟩ := tw_rd TH hmm hkm (by decide) (by decide) (k := 14) rfl
    have TH0 := TH
    have hT0 := TH.2.2
    refine tw_Vc (o := xq) (ci := 11) (n := 1) (post := (fun v kq Lq Eq => (∃ x : Int32, v = some (.int x) ∧ ((tw_fi Eq (tw_fa Eq xq 1) 1) = (tw_fi E (tw_fa E xq 1) 1)) ∧ (tw_el Eq (tw_fa E xq 0) 0 = tw_el E (tw_fa E xq 0) 0) ∧ gz_ok Eq xq ∧ ss_ok Eq xq ∧ ac_ok Eq xq) ∧ kp = kq ∧ L = Lq ∧ tw_fr kp L [(2, 1), (2, 7), (9, 2), (9, 3), (9, 4), (10, 0)] [100, 102, 110, 111, 112, 113, 114, 130, 131, 132, 133, 134, 136, 137, 138, 139] E Eq)) (As := [.int 0]) (rest := []) ⟨hx, hb, hml, hown, hB⟩ (fun sz => tX11_fault_vG l D cs xq (0 : Int32) hmx hkx (by have : ((0 : Int32).toInt) = 0 := (by decide); omega) (by have : ((0 : Int32).toInt) = 0 := (by decide); omega) g1 g2 g3 sz) cg_L_23_X11_fault rfl rfl (by decide +kernel) ⟨Nat.le_of_ble_eq_true rfl, Nat.le_of_ble_eq_true rfl⟩ hK hN TH hS hA rfl hmx hkx (by decide) rfl hl.1 rfl (Nat.le_of_ble_eq_true rfl) dL_law_276 ⟨(by show _ ≤ 600000; omega), (by show _ ≤ 7302250; omega)⟩ (fun v7 kp7 L7 E7 H locs hq7 hx7 TH hS => ?_)
    obtain ⟨⟨xc8, rfl, hpoxc8_0, hpoxc8_1, hgpxc8_0, hgpxc8_1, hgpxc8_2⟩, rfl, rfl, hst7⟩ := hq7
    have hmf9 : tw_fv E7 mq 1 = .int xi5 := (hst7.1 mq 1 hmm (by rw [hkm]; decide)).trans hxi5
    have hmf10 : tw_fv E7 mq 14 = .int xi6 := (hst7.1 mq 14 hmm (by rw [hkm]; decide)).trans hxi6
    have r0 : rd_ok E7 mq := rd_ok_fr TH hst7 hmm hkm (by decide) (by decide) r0
    have r1 : eo_ok E7 mq := eo_ok_fr TH hst7 hmm hkm (by decide) (by decide) r1
    have r2 : ht_ok E7 mq := ht_ok_fr TH hst7 hmm hkm (by decide) (by decide) r2
    have r3 : dr_ok E7 mq := dr_ok_fr TH hst7 hmm hkm (by decide) (by decide) r3
    have r4 : ln_ok E7 mq := ln_ok_fr TH hst7 hmm hkm (by decide) (by decide) r4
    have r5 : dl_ok E7 mq := dl_ok_fr TH hst7 hmm hkm (by decide) (by decide) r5
    have r6 : fw_ok E7 mq := fw_ok_fr TH hst7 hmm hkm (by decide) (by decide) r6
    have r7 : kg_ok E7 mq := kg_ok_fr TH hst7 hmm hkm (by decide) (by decide) r7
    have r8 : sd_ok E7 mq := sd_ok_fr TH hst7 hmm hkm (by decide) (by decide) r8
    have r9 : rg_ok E7 mq := rg_ok_fr TH hst7 hmm hkm (by decide) (by decide) r9
    refine W.eq (g2 := F0 m 279 ls [.int xc8]) rfl ?_
    refine lv_pop hx hb dL_law_279 rfl ?_
    refine lv_aload_n hx hb dL_law_280 rfl (lv_at hl 1 rfl) ?_
    refine lv_aload_n hx hb dL_law_281 rfl (lv_at hl 3 rfl) ?_
    refine lv_iload_n hx hb dL_law_282 rfl (lv_at hl 0 rfl) ?_
    refine lv_iconst (v := 1) hx hb dL_law_283 (by decide) ?_
    refine lv_iadd hx hb dL_law_284 ?_
    refine lv_topi (fun zi11 ezi11 => ?_)
    have hzi11 : zi11.toInt = i.toInt + 1 := by rw [ezi11]; have : ((1 : Int32).toInt) = 1 := (by decide); have := ia_lo i; have := ia_hi i; exact (ia_add (by omega) (by omega)).trans (by omega)
    have h_284 := trivial
    refine va_sld hx hb hX hbl hbA hS (i := zi11) (vp_in_iff.mpr ⟨by omega, by omega⟩) dL_law_285 ?_
    obtain ⟨xs12, exs12⟩ : ∃ z : Int32, xs (Int32.toNatClampNeg zi11) = z := ⟨_, rfl⟩
    rw [exs12]
    have qxs12 : xs2 = xs12 := by rw [← exs12, ← exs2, ia_ext (a := zi11) (b := zi1) (by omega)]
    subst qxs12
    refine lv_if_eq (tgt := 293) hx hb dL_law_286 (by decide) (fun hc13 => ?_) (fun hc13 => ?_)
    · have hf14 : xs2.toInt = 0 := by have z := (fa_eq _ _).mp hc13; have : ((0 : Int32).toInt) = 0 := (by decide); omega
      refine lv_iconst (v := 0) hx hb dL_law_293 (by decide) ?_
      have TH1 := TH
      have hT1 := TH.2.2
      refine tw_Vc (o := mq) (ci := 12) (n := 1) (post := (fun v kq Lq Eq => (∃ x : Int32, v = some (.int x) ∧ (-1) ≤ x.toInt ∧ x.toInt ≤ 500 ∧ rd_ok Eq mq ∧ eo_ok Eq mq ∧ ht_ok Eq mq ∧ dr_ok Eq mq ∧ ln_ok Eq mq ∧ dl_ok Eq mq ∧ fw_ok Eq mq ∧ kg_ok Eq mq ∧ rg_ok Eq mq) ∧ kp = kq ∧ L = Lq ∧ tw_fr kp L [(12, 2), (12, 3), (12, 4), (12, 15), (12, 28)] [301, 302, 303, 304, 305, 320, 321, 322, 323, 326, 327, 328, 329, 332, 343, 344, 345, 346, 347] E7 Eq)) (As := [.int 0]) (rest := []) ⟨hx, hb, hml, hown, hB⟩ (fun sz => tX12_fault l D cs mq (0 : Int32) hmm hkm (by have : ((0 : Int32).toInt) = 0 := (by decide); omega) (by have : ((0 : Int32).toInt) = 0 := (by decide); omega) r0 r1 r2 r3 r4 r5 r6 r7 r9 sz) cg_L_27_X12_fault rfl rfl (by decide +kernel) ⟨Nat.le_of_ble_eq_true rfl, Nat.le_of_ble_eq_true rfl⟩ hK hN TH hS hA rfl hmm hkm (by decide) rfl hl.1 rfl (Nat.le_of_ble_eq_true rfl) dL_law_294 ⟨(by show _ ≤ 600000; omega), (by show _ ≤ 7302250; omega)⟩ (fun v15 kp15 L15 E15 H locs hq15 hx15 TH hS => ?_)
      obtain ⟨⟨xc16, rfl, hxc16a, hxc16b, hgpxc16_0, hgpxc16_1, hgpxc16_2, hgpxc16_3, hgpxc16_4, hgpxc16_5, hgpxc16_6, hgpxc16_7, hgpxc16_8⟩, rfl, rfl, hst15⟩ := hq15
      have hmf17 : tw_fv E15 mq 1 = .int xi5 := (hst15.1 mq 1 hmm (by rw [hkm]; decide)).trans hmf9
      have hmf18 : tw_fv E15 mq 14 = .int xi6 := (hst15.1 mq 14 hmm (by rw [hkm]; decide)).trans hmf10
      have r8 : sd_ok E15 mq := sd_ok_fr TH hst15 hmm hkm (by decide) (by decide) r8
      have hgpxc8_0 : gz_ok E15 xq := gz_ok_fr TH hst15 hmx hkx (by decide) (by decide) hgpxc8_0
      have hgpxc8_1 : ss_ok E15 xq := ss_ok_fr TH hst15 hmx hkx (by decide) (by decide) hgpxc8_1
      have hgpxc8_2 : ac_ok E15 xq := ac_ok_fr TH hst15 hmx hkx (by decide) (by decide) hgpxc8_2
      refine W.eq (g2 := F0 m 297 ls [.int xc16]) rfl ?_
      refine lv_pop hx hb dL_law_297 rfl ?_
      refine lv_goto (tgt := 1178) hx hb dL_law_298 (by decide) ?_
      have hJ2 : lj_ok E15 xq mq := lj_fault hT0 hT1 hst7 hst15 hmx hkx hmm hkm (by decide) (by decide) (by decide) (by decide) hJ0 hpoxc8_0 hpoxc8_1
      exact kk _ _ _ _ _ _ _ (by omega) (by omega) ⟨hmx, hkx, hmm, hkm, hgpxc8_0, hgpxc8_1, hgpxc8_2, ⟨hgpxc16_0, hgpxc16_1, hgpxc16_2, hgpxc16_3, hgpxc16_4, hgpxc16_5, hgpxc16_6, hgpxc16_7, r8, hgpxc16_8⟩, hJ2⟩ TH hS
    · have hf19 : ¬ (xs2.toInt = 0) := fun q => hc13 ((fa_eq _ _).mpr (by have : ((0 : Int32).toInt) = 0 := (by decide); omega))
      exfalso; omega
  · have hf20 : ¬ (xs2.toInt = 0) := fun q => hc3 ((fa_eq _ _).mpr (by have : ((0 : Int32).toInt) = 0 := (by decide); omega))
    refine lv_iconst (v := 1) hx hb dL_law_271 (by decide) ?_
    refine lv_goto (tgt := 276) hx hb dL_law_272 (by decide) ?_
    obtain ⟨xi21, hxi21, hxi21a, hxi21b⟩ := tw_rd TH hmm hkm (by decide) (by decide) (k := 1) rfl
    obtain ⟨xi22, hxi22, hxi22a, hxi22b⟩ := tw_rd TH hmm hkm (by decide) (by decide) (k := 14) rfl
    have TH0 := TH
    have hT0 := TH.2.2
    refine tw_Vc (o := xq) (ci := 11) (n := 1) (post := (fun v kq Lq Eq => (∃ x : Int32, v = some (.int x) ∧ ((tw_fi Eq (tw_fa Eq xq 1) 1) = (tw_fi E (tw_fa E xq 1) 1)) ∧ (tw_el Eq (tw_fa E xq 0) 0 = tw_el E (tw_fa E xq 0) 0) ∧ gz_ok Eq xq ∧ ss_ok Eq xq ∧ ac_ok Eq xq) ∧ kp = kq ∧ L = Lq ∧ tw_fr kp L [(2, 1), (2, 7), (9, 2), (9, 3), (9, 4), (10, 0)] [100, 102, 110, 111, 112, 113, 114, 130, 131, 132, 133, 134, 136, 137, 138, 139] E Eq)) (As := [.int 1]) (rest := []) ⟨hx, hb, hml, hown, hB⟩ (fun sz => tX11_fault_vG l D cs xq (1 : Int32) hmx hkx (by have : ((1 : Int32).toInt) = 1 := (by decide); omega) (by have : ((1 : Int32).toInt) = 1 := (by decide); omega) g1 g2 g3 sz) cg_L_23_X11_fault rfl rfl (by decide +kernel) ⟨Nat.le_of_ble_eq_true rfl, Nat.le_of_ble_eq_true rfl⟩ hK hN TH hS hA rfl hmx hkx (by decide) rfl hl.1 rfl (Nat.le_of_ble_eq_true rfl) dL_law_276 ⟨(by show _ ≤ 600000; omega), (by show _ ≤ 7302250; omega)⟩ (fun v23 kp23 L23 E23 H locs hq23 hx23 TH hS => ?_)
    obtain ⟨⟨xc24, rfl, hpoxc24_0, hpoxc24_1, hgpxc24_0, hgpxc24_1, hgpxc24_2⟩, rfl, rfl, hst23⟩ := hq23
    have hmf25 : tw_fv E23 mq 1 = .int xi21 := (hst23.1 mq 1 hmm (by rw [hkm]; decide)).trans hxi21
    have hmf26 : tw_fv E23 mq 14 = .int xi22 := (hst23.1 mq 14 hmm (by rw [hkm]; decide)).trans hxi22
    have r0 : rd_ok E23 mq := rd_ok_fr TH hst23 hmm hkm (by decide) (by decide) r0
    have r1 : eo_ok E23 mq := eo_ok_fr TH hst23 hmm hkm (by decide) (by decide) r1
    have r2 : ht_ok E23 mq := ht_ok_fr TH hst23 hmm hkm (by decide) (by decide) r2
    have r3 : dr_ok E23 mq := dr_ok_fr TH hst23 hmm hkm (by decide) (by decide) r3
    have r4 : ln_ok E23 mq := ln_ok_fr TH hst23 hmm hkm (by decide) (by decide) r4
    have r5 : dl_ok E23 mq := dl_ok_fr TH hst23 hmm hkm (by decide) (by decide) r5
    have r6 : fw_ok E23 mq := fw_ok_fr TH hst23 hmm hkm (by decide) (by decide) r6
    have r7 : kg_ok E23 mq := kg_ok_fr TH hst23 hmm hkm (by decide) (by decide) r7
    have r8 : sd_ok E23 mq := sd_ok_fr TH hst23 hmm hkm (by decide) (by decide) r8
    have r9 : rg_ok E23 mq := rg_ok_fr TH hst23 hmm hkm (by decide) (by decide) r9
    refine W.eq (g2 := F0 m 279 ls [.int xc24]) rfl ?_
    refine lv_pop hx hb dL_law_279 rfl ?_
    refine lv_aload_n hx hb dL_law_280 rfl (lv_at hl 1 rfl) ?_
    refine lv_aload_n hx hb dL_law_281 rfl (lv_at hl 3 rfl) ?_
    refine lv_iload_n hx hb dL_law_282 rfl (lv_at hl 0 rfl) ?_
    refine lv_iconst (v := 1) hx hb dL_law_283 (by decide) ?_
    refine lv_iadd hx hb dL_law_284 ?_
    refine lv_topi (fun zi27 ezi27 => ?_)
    have hzi27 : zi27.toInt = i.toInt + 1 := by rw [ezi27]; have : ((1 : Int32).toInt) = 1 := (by decide); have := ia_lo i; have := ia_hi i; exact (ia_add (by omega) (by omega)).trans (by omega)
    have h_284 := trivial
    refine va_sld hx hb hX hbl hbA hS (i := zi27) (vp_in_iff.mpr ⟨by omega, by omega⟩) dL_law_285 ?_
    obtain ⟨xs28, exs28⟩ : ∃ z : Int32, xs (Int32.toNatClampNeg zi27) = z := ⟨_, rfl⟩
    rw [exs28]
    have qxs28 : xs2 = xs28 := by rw [← exs28, ← exs2, ia_ext (a := zi27) (b := zi1) (by omega)]
    subst qxs28
    refine lv_if_eq (tgt := 293) hx hb dL_law_286 (by decide) (fun hc29 => ?_) (fun hc29 => ?_)
    · have hf30 : xs2.toInt = 0 := by have z := (fa_eq _ _).mp hc29; have : ((0 : Int32).toInt) = 0 := (by decide); omega
      refine lv_iconst (v := 0) hx hb dL_law_293 (by decide) ?_
      have TH1 := TH
      have hT1 := TH.2.2
      refine tw_Vc (o := mq) (ci := 12) (n := 1) (post := (fun v kq Lq Eq => (∃ x : Int32, v = some (.int x) ∧ (-1) ≤ x.toInt ∧ x.toInt ≤ 500 ∧ rd_ok Eq mq ∧ eo_ok Eq mq ∧ ht_ok Eq mq ∧ dr_ok Eq mq ∧ ln_ok Eq mq ∧ dl_ok Eq mq ∧ fw_ok Eq mq ∧ kg_ok Eq mq ∧ rg_ok Eq mq) ∧ kp = kq ∧ L = Lq ∧ tw_fr kp L [(12, 2), (12, 3), (12, 4), (12, 15), (12, 28)] [301, 302, 303, 304, 305, 320, 321, 322, 323, 326, 327, 328, 329, 332, 343, 344, 345, 346, 347] E23 Eq)) (As := [.int 0]) (rest := []) ⟨hx, hb, hml, hown, hB⟩ (fun sz => tX12_fault l D cs mq (0 : Int32) hmm hkm (by have : ((0 : Int32).toInt) = 0 := (by decide); omega) (by have : ((0 : Int32).toInt) = 0 := (by decide); omega) r0 r1 r2 r3 r4 r5 r6 r7 r9 sz) cg_L_27_X12_fault rfl rfl (by decide +kernel) ⟨Nat.le_of_ble_eq_true rfl, Nat.le_of_ble_eq_true rfl⟩ hK hN TH hS hA rfl hmm hkm (by decide) rfl hl.1 rfl (Nat.le_of_ble_eq_true rfl) dL_law_294 ⟨(by show _ ≤ 600000; omega), (by show _ ≤ 7302250; omega)⟩ (fun v31 kp31 L31 E31 H locs hq31 hx31 TH hS => ?_)
      obtain ⟨⟨xc32, rfl, hxc32a, hxc32b, hgpxc32_0, hgpxc32_1, hgpxc32_2, hgpxc32_3, hgpxc32_4, hgpxc32_5, hgpxc32_6, hgpxc32_7, hgpxc32_8⟩, rfl, rfl, hst31⟩ := hq31
      have hmf33 : tw_fv E31 mq 1 = .int xi21 := (hst31.1 mq 1 hmm (by rw [hkm]; decide)).trans hmf25
      have hmf34 : tw_fv E31 mq 14 = .int xi22 := (hst31.1 mq 14 hmm (by rw [hkm]; decide)).trans hmf26
      have r8 : sd_ok E31 mq := sd_ok_fr TH hst31 hmm hkm (by decide) (by decide) r8
      have hgpxc24_0 : gz_ok E31 xq := gz_ok_fr TH hst31 hmx hkx (by decide) (by decide) hgpxc24_0
      have hgpxc24_1 : ss_ok E31 xq := ss_ok_fr TH hst31 hmx hkx (by decide) (by decide) hgpxc24_1
      have hgpxc24_2 : ac_ok E31 xq := ac_ok_fr TH hst31 hmx hkx (by decide) (by decide) hgpxc24_2
      refine W.eq (g2 := F0 m 297 ls [.int xc32]) rfl ?_
      refine lv_pop hx hb dL_law_297 rfl ?_
      refine lv_goto (tgt := 1178) hx hb dL_law_298 (by decide) ?_
      have hJ2 : lj_ok E31 xq mq := lj_fault hT0 hT1 hst23 hst31 hmx hkx hmm hkm (by decide) (by decide) (by decide) (by decide) hJ0 hpoxc24_0 hpoxc24_1
      exact kk _ _ _ _ _ _ _ (by omega) (by omega) ⟨hmx, hkx, hmm, hkm, hgpxc24_0, hgpxc24_1, hgpxc24_2, ⟨hgpxc32_0, hgpxc32_1, hgpxc32_2, hgpxc32_3, hgpxc32_4, hgpxc32_5, hgpxc32_6, hgpxc32_7, r8, hgpxc32_8⟩, hJ2⟩ TH hS
    · have hf35 : ¬ (xs2.toInt = 0) := fun q => hc29 ((fa_eq _ _).mpr (by have : ((0 : Int32).toInt) = 0 := (by decide); omega))
      refine lv_iconst (v := 1) hx hb dL_law_289 (by decide) ?_
      refine lv_goto (tgt := 294) hx hb dL_law_290 (by decide) ?_
      have TH1 := TH
      have hT1 := TH.2.2
      refine tw_Vc (o := mq) (ci := 12) (n := 1) (post := (fun v kq Lq Eq => (∃ x : Int32, v = some (.int x) ∧ (-1) ≤ x.toInt ∧ x.toInt ≤ 500 ∧ rd_ok Eq mq ∧ eo_ok Eq mq ∧ ht_ok Eq mq ∧ dr_ok Eq mq ∧ ln_ok Eq mq ∧ dl_ok Eq mq ∧ fw_ok Eq mq ∧ kg_ok Eq mq ∧ rg_ok Eq mq) ∧ kp = kq ∧ L = Lq ∧ tw_fr kp L [(12, 2), (12, 3), (12, 4), (12, 15), (12, 28)] [301, 302, 303, 304, 305, 320, 321, 322, 323, 326, 327, 328, 329, 332, 343, 344, 345, 346, 347] E23 Eq)) (As := [.int 1]) (rest := []) ⟨hx, hb, hml, hown, hB⟩ (fun sz => tX12_fault l D cs mq (1 : Int32) hmm hkm (by have : ((1 : Int32).toInt) = 1 := (by decide); omega) (by have : ((1 : Int32).toInt) = 1 := (by decide); omega) r0 r1 r2 r3 r4 r5 r6 r7 r9 sz) cg_L_27_X12_fault rfl rfl (by decide +kernel) ⟨Nat.le_of_ble_eq_true rfl, Nat.le_of_ble_eq_true rfl⟩ hK hN TH hS hA rfl hmm hkm (by decide) rfl hl.1 rfl (Nat.le_of_ble_eq_true rfl) dL_law_294 ⟨(by show _ ≤ 600000; omega), (by show _ ≤ 7302250; omega)⟩ (fun v36 kp36 L36 E36 H locs hq36 hx36 TH hS => ?_)
      obtain ⟨⟨xc37, rfl, hxc37a, hxc37b, hgpxc37_0, hgpxc37_1, hgpxc37_2, hgpxc37_3, hgpxc37_4, hgpxc37_5, hgpxc37_6, hgpxc37_7, hgpxc37_8⟩, rfl, rfl, hst36⟩ := hq36
      have hmf38 : tw_fv E36 mq 1 = .int xi21 := (hst36.1 mq 1 hmm (by rw [hkm]; decide)).trans hmf25
      have hmf39 : tw_fv E36 mq 14 = .int xi22 := (hst36.1 mq 14 hmm (by rw [hkm]; decide)).trans hmf26
      have r8 : sd_ok E36 mq := sd_ok_fr TH hst36 hmm hkm (by decide) (by decide) r8
      have hgpxc24_0 : gz_ok E36 xq := gz_ok_fr TH hst36 hmx hkx (by decide) (by decide) hgpxc24_0
      have hgpxc24_1 : ss_ok E36 xq := ss_ok_fr TH hst36 hmx hkx (by decide) (by decide) hgpxc24_1
      have hgpxc24_2 : ac_ok E36 xq := ac_ok_fr TH hst36 hmx hkx (by decide) (by decide) hgpxc24_2
      refine W.eq (g2 := F0 m 297 ls [.int xc37]) rfl ?_
      refine lv_pop hx hb dL_law_297 rfl ?_
      refine lv_goto (tgt := 1178) hx hb dL_law_298 (by decide) ?_
      have hJ2 : lj_ok E36 xq mq := lj_fault hT0 hT1 hst23 hst36 hmx hkx hmm hkm (by decide) (by decide) (by decide) (by decide) hJ0 hpoxc24_0 hpoxc24_1
      exact kk _ _ _ _ _ _ _ (by omega) (by omega) ⟨hmx, hkx, hmm, hkm, hgpxc24_0, hgpxc24_1, hgpxc24_2, ⟨hgpxc37_0, hgpxc37_1, hgpxc37_2, hgpxc37_3, hgpxc37_4, hgpxc37_5, hgpxc37_6, hgpxc37_7, r8, hgpxc37_8⟩, hJ2⟩ TH hS
set_option maxHeartbeats 4000000 in
set_option maxRecDepth 100000 in
theorem lop_3 {p : Program} {l : Launch} {e : Env} {s : State} {m : MethodId} {below : List Frame} {meth : Method} {c : Code} {D : va_G} {cs : Nat → ClassId} {A : Nat → Prop} {b Len : Nat} {xs : Nat → Int32} (hx : p.tables.exec = Jvm.exec) (hb : c.code = cL_law) (hr : meth.sig.returnType = ret) (hml : c.maxLocals = 4) (hB : ∀ w ∈ cx_big, w.before #[Value.ref b] s = true) (hown : s.vm.findClass "TreeMergeLaw" = some m.cls) (hlocks : meth.locks = false) (hK : va_K D vwCl (cx_TY cs) s) (hN : tw_NZ D A s s.heap) (hA : ∀ q : Nat, s.heap.size ≤ q → A q) (hA2 : ∀ q : Nat, A q → s.heap.size ≤ q) (hbA : ¬ A b) (hbl : b < s.heap.size) (hX : va_X b Len xs s s.heap) (hLen : Len ≤ 3072) {xq mq : Nat} {kp : Nat → Nat} {L : List Nat} {E : Nat → va_E} (i : Int32) (hi0 : 0 ≤ i.toInt) {cells slots : Nat} (hc : cells + 12 ≤ 600000) (hs : slots + 360 ≤ 7302250) {H : Heap} {locs : List Loc} {ls : Array Slot} (I : lv_I kp L E xq mq) (TH : tw_H D cs kp L E A H) (hS : va_S A s.heap H locs) (hl : lv_has ls 4 [(3, .int i), (2, .ref mq), (1, .ref xq), (0, .ref b)]) (hi1 : i.toInt + 6 ≤ Len) (kk : ∀ (kp1 : Nat → Nat) (L1 : List Nat) (E1 : Nat → va_E) (H1 : Heap) (locs1 : List Loc) (cells1 slots1 : Nat), cells1 ≤ cells + 12 → slots1 ≤ slots + 360 → lv_I kp1 L1 E1 xq mq → tw_H D cs kp1 L1 E1 A H1 → va_S A s.heap H1 locs1 → W p l e room_1 s m #[Value.ref b] below meth c H1 locs1 cells1 slots1 (lw_Z below #[Value.ref b] s) (F0 m 1178 ls [])) : W p l e room_1 s m #[Value.ref b] below meth c H locs cells slots (lw_Z below #[Value.ref b] s) (F0 m 301 ls []) := by
  obtain ⟨hmx, hkx, hmm, hkm, g1, g2, g3, ⟨r0, r1, r2, r3, r4, r5, r6, r7, r8, r9⟩, hJ⟩ := I
  have hJ0 := hJ
  refine lv_aload_n hx hb dL_law_301 rfl (lv_at hl 2 rfl) ?_
  obtain ⟨xi1, hxi1, hxi1a, hxi1b⟩ := tw_rd TH hmm hkm (by decide) (by decide) (k := 1) rfl
  obtain ⟨xi2, hxi2, hxi2a, hxi2b⟩ := tw_rd TH hmm hkm (by decide) (by decide) (k := 14) rfl
  have TH0 := TH
  have hT0 := TH.2.2
  refine tw_Vc (o := xq) (ci := 11) (n := 0) (post := (fun v kq Lq Eq => (∃ x : Int32, v = some (.int x) ∧ (0 < (tw_fi E (tw_fa E xq 1) 1) → x.toInt = -1 ∧ 0 < (tw_fi Eq (tw_fa Eq xq 1) 1)) ∧ ((tw_fi E (tw_fa E xq 1) 1) = 0 → x.toInt = gy_all (tw_el E (tw_fa E xq 0) 0) (tw_fi E (tw_fa E xq 0) 1)) ∧ ((tw_fi E (tw_fa E xq 1) 1) = 0 → (x.toInt = -1 ∧ (tw_fi Eq (tw_fa Eq xq 1) 1) = 0 ∧ tw_fi Eq (tw_fa E xq 0) 1 = (tw_fi E (tw_fa E xq 0) 1) ∧ tw_el Eq (tw_fa E xq 0) 0 = tw_el E (tw_fa E xq 0) 0) ∨ (1 ≤ (tw_fi Eq (tw_fa Eq xq 1) 1) ∧ x.toInt = (tw_fi Eq (tw_fa Eq xq 1) 1))) ∧ gz_ok Eq xq ∧ ss_ok Eq xq ∧ ac_ok Eq xq) ∧ kp = kq ∧ L = Lq ∧ tw_fr kp L [(2, 1), (2, 7), (9, 1), (9, 2), (9, 3), (9, 4), (11, 1), (11, 2)] [100, 130, 131, 132, 133, 134, 136, 137, 138, 139] E Eq)) (As := []) (rest := []) ⟨hx, hb, hml, hown, hB⟩ (fun sz => tX11_grammar_vG l D cs xq hmx hkx g1 g2 g3 sz) cg_L_28_X11_grammar rfl rfl (by decide +kernel) ⟨Nat.le_of_ble_eq_true rfl, Nat.le_of_ble_eq_true rfl⟩ hK hN TH hS hA rfl hmx hkx (by decide) rfl hl.1 rfl (Nat.le_of_ble_eq_true rfl) dL_law_302 ⟨(by show _ ≤ 600000; omega), (by show _ ≤ 7302250; omega)⟩ (fun v3 kp3 L3 E3 H locs hq3 hx3 TH hS => ?_)
  obtain ⟨⟨xc4, rfl, hpoxc4_0, hpoxc4_1, hpoxc4_2, hgpxc4_0, hgpxc4_1, hgpxc4_2⟩, rfl, rfl, hst3⟩ := hq3
  have hmf5 : tw_fv E3 mq 1 = .int xi1 := (hst3.1 mq 1 hmm (by rw [hkm]; decide)).trans hxi1
  have hmf6 : tw_fv E3 mq 14 = .int xi2 := (hst3.1 mq 14 hmm (by rw [hkm]; decide)).trans hxi2
  have r0 : rd_ok E3 mq := rd_ok_fr TH hst3 hmm hkm (by decide) (by decide) r0
  have r1 : eo_ok E3 mq := eo_ok_fr TH hst3 hmm hkm (by decide) (by decide) r1
  have r2 : ht_ok E3 mq := ht_ok_fr TH hst3 hmm hkm (by decide) (by decide) r2
  have r3 : dr_ok E3 mq := dr_ok_fr TH hst3 hmm hkm (by decide) (by decide) r3
  have r4 : ln_ok E3 mq := ln_ok_fr TH hst3 hmm hkm (by decide) (by decide) r4
  have r5 : dl_ok E3 mq := dl_ok_fr TH hst3 hmm hkm (by decide) (by decide) r5
  have r6 : fw_ok E3 mq := fw_ok_fr TH hst3 hmm hkm (by decide) (by decide) r6
  have r7 : kg_ok E3 mq := kg_ok_fr TH hst3 hmm hkm (by decide) (by decide) r7
  have r8 : sd_ok E3 mq := sd_ok_fr TH hst3 hmm hkm (by decide) (by decide) r8
  have r9 : rg_ok E3 mq := rg_ok_fr TH hst3 hmm hkm (by decide) (by decide) r9
  refine W.eq (g2 := F0 m 305 ls [.int xc4]) rfl ?_
  refine lv_aload_n hx hb dL_law_305 rfl (lv_at hl 1 rfl) ?_
  have TH1 := TH
  have hT1 := TH.2.2
  refine tw_Vc (o := mq) (ci := 12) (n := 0) (post := (fun v kq Lq Eq => (∃ x : Int32, v = some (.int x) ∧ (0 < xi2.toInt → x.toInt = -1 ∧ tw_fi Eq mq 14 = xi2.toInt) ∧ (xi2.toInt = 0 → x.toInt = gy_all (tw_el E3 mq 0) xi1.toInt) ∧ (xi2.toInt = 0 → (x.toInt = -1 ∧ tw_fi Eq mq 14 = 0 ∧ tw_fi Eq mq 1 = xi1.toInt) ∨ (1 ≤ tw_fi Eq mq 14 ∧ x.toInt = tw_fi Eq mq 14)) ∧ kg_ok Eq mq ∧ rg_ok Eq mq) ∧ kp = kq ∧ L = Lq ∧ tw_fr kp L [(12, 1), (12, 2), (12, 3), (12, 4), (12, 14), (12, 15)] [301, 302, 303, 304, 305, 320, 321, 322, 323, 336, 337, 338, 339, 340, 351, 352] E3 Eq)) (As := []) (rest := [.int xc4]) ⟨hx, hb, hml, hown, hB⟩ (fun sz => tX12_grammar l D cs mq xi2 xi1 hmm hkm hmf6 hmf5 r7 r9 sz) cg_L_32_X12_grammar rfl rfl (by decide +kernel) ⟨Nat.le_of_ble_eq_true rfl, Nat.le_of_ble_eq_true rfl⟩ hK hN TH hS hA rfl hmm hkm (by decide) rfl hl.1 rfl (Nat.le_of_ble_eq_true rfl) dL_law_306 ⟨(by show _ ≤ 600000; omega), (by show _ ≤ 7302250; omega)⟩ (fun v7 kp7 L7 E7 H locs hq7 hx7 TH hS => ?_)
  obtain ⟨⟨xc8, rfl, hpoxc8_0, hpoxc8_1, hpoxc8_2, hgpxc8_0, hgpxc8_1⟩, rfl, rfl, hst7⟩ := hq7
  have r0 : rd_ok E7 mq := rd_ok_fr TH hst7 hmm hkm (by decide) (by decide) r0
  have r1 : eo_ok E7 mq := eo_ok_fr TH hst7 hmm hkm (by decide) (by decide) r1
  have r2 : ht_ok E7 mq := ht_ok_fr TH hst7 hmm hkm (by decide) (by decide) r2
  have r3 : dr_ok E7 mq := dr_ok_fr TH hst7 hmm hkm (by decide) (by decide) r3
  have r4 : ln_ok E7 mq := ln_ok_fr TH hst7 hmm hkm (by decide) (by decide) r4
  have r5 : dl_ok E7 mq := dl_ok_fr TH hst7 hmm hkm (by decide) (by decide) r5
  have r6 : fw_ok E7 mq := fw_ok_fr TH hst7 hmm hkm (by decide) (by decide) r6
  have r8 : sd_ok E7 mq := sd_ok_fr TH hst7 hmm hkm (by decide) (by decide) r8
  have hgpxc4_0 : gz_ok E7 xq := gz_ok_fr TH hst7 hmx hkx (by decide) (by decide) hgpxc4_0
  have hgpxc4_1 : ss_ok E7 xq := ss_ok_fr TH hst7 hmx hkx (by decide) (by decide) hgpxc4_1
  have hgpxc4_2 : ac_ok E7 xq := ac_ok_fr TH hst7 hmx hkx (by decide) (by decide) hgpxc4_2
  refine W.eq (g2 := F0 m 309 ls [.int xc8, .int xc4]) rfl ?_
  have hgr := lj_gram (v := xc4.toInt) (w := xc8.toInt) hT0 hT1 hst3 hst7 hmx hkx hmm hkm (by decide) (by decide) (by decide) (by decide) hJ0 (by rw [tw_fi_of hxi1]; omega) hpoxc4_0 hpoxc4_1 hpoxc4_2 (tw_fi_of hmf5) (tw_fi_of hmf6) hpoxc8_0 hpoxc8_1 hpoxc8_2
  have hgr1 := hgr.1
  refine lv_icmp_eq (tgt := 1178) hx hb dL_law_309 (by decide) (fun hc9 => ?_) (fun hc9 => ?_)
  · have hf10 : xc4.toInt = xc8.toInt := by have z := (fa_eq _ _).mp hc9;  omega
    have hJ2 : lj_ok E7 xq mq := hgr.2
    exact kk _ _ _ _ _ _ _ (by omega) (by omega) ⟨hmx, hkx, hmm, hkm, hgpxc4_0, hgpxc4_1, hgpxc4_2, ⟨r0, r1, r2, r3, r4, r5, r6, hgpxc8_0, r8, hgpxc8_1⟩, hJ2⟩ TH hS
  · have hf11 : ¬ (xc4.toInt = xc8.toInt) := fun q => hc9 ((fa_eq _ _).mpr (by  omega))
    exfalso
    omega
set_option maxHeartbeats 4000000 in
set_option maxRecDepth 100000 in
theorem lop_4 {p : Program} {l : Launch} {e : Env} {s : State} {m : MethodId} {below : List Frame} {meth : Method} {c : Code} {D : va_G} {cs : Nat → ClassId} {A : Nat → Prop} {b Len : Nat} {xs : Nat → Int32} (hx : p.tables.exec = Jvm.exec) (hb : c.code = cL_law) (hr : meth.sig.returnType = ret) (hml : c.maxLocals = 4) (hB : ∀ w ∈ cx_big, w.before #[Value.ref b] s = true) (hown : s.vm.findClass "TreeMergeLaw" = some m.cls) (hlocks : meth.locks = false) (hK : va_K D vwCl (cx_TY cs) s) (hN : tw_NZ D A s s.heap) (hA : ∀ q : Nat, s.heap.size ≤ q → A q) (hA2 : ∀ q : Nat, A q → s.heap.size ≤ q) (hbA : ¬ A b) (hbl : b < s.heap.size) (hX : va_X b Len xs s s.heap) (hLen : Len ≤ 3072) {xq mq : Nat} {kp : Nat → Nat} {L : List Nat} {E : Nat → va_E} (i : Int32) (hi0 : 0 ≤ i.toInt) {cells slots : Nat} (hc : cells + 12 ≤ 600000) (hs : slots + 360 ≤ 7302250) {H : Heap} {locs : List Loc} {ls : Array Slot} (I : lv_I kp L E xq mq) (TH : tw_H D cs kp L E A H) (hS : va_S A s.heap H locs) (hl : lv_has ls 4 [(3, .int i), (2, .ref mq), (1, .ref xq), (0, .ref b)]) (hi1 : i.toInt + 6 ≤ Len) (kk : ∀ (kp1 : Nat → Nat) (L1 : List Nat) (E1 : Nat → va_E) (H1 : Heap) (locs1 : List Loc) (cells1 slots1 : Nat), cells1 ≤ cells + 12 → slots1 ≤ slots + 360 → lv_I kp1 L1 E1 xq mq → tw_H D cs kp1 L1 E1 A H1 → va_S A s.heap H1 locs1 → W p l e room_1 s m #[Value.ref b] below meth c H1 locs1 cells1 slots1 (lw_Z below #[Value.ref b] s) (F0 m 1178 ls [])) : W p l e room_1 s m #[Value.ref b] below meth c H locs cells slots (lw_Z below #[Value.ref b] s) (F0 m 314 ls []) := by
  obtain ⟨hmx, hkx, hmm, hkm, g1, g2, g3, ⟨r0, r1, r2, r3, r4, r5, r6, r7, r8, r9⟩, hJ⟩ := I
  have hJ0 := hJ
  refine lv_aload_n hx hb dL_law_314 rfl (lv_at hl 2 rfl) ?_
  obtain ⟨xi1, hxi1, hxi1a, hxi1b⟩ := tw_rd TH hmm hkm (by decide) (by decide) (k := 1) rfl
  obtain ⟨xi2, hxi2, hxi2a, hxi2b⟩ := tw_rd TH hmm hkm (by decide) (by decide) (k := 14) rfl
  have TH0 := TH
  have hT0 := TH.2.2
  refine tw_Vc (o := xq) (ci := 11) (n := 0) (post := (fun v kq Lq Eq => (∃ x : Int32, v = some (.int x) ∧ gz_ok Eq xq) ∧ kp = kq ∧ L = Lq ∧ tw_fr kp L [(3, 0), (9, 2), (9, 3), (9, 4), (10, 0)] [101, 102, 110, 111, 112, 113, 114, 135] E Eq)) (As := []) (rest := []) ⟨hx, hb, hml, hown, hB⟩ (fun sz => tX11_breaks l D cs xq hmx hkx g1 sz) cg_L_33_X11_breaks rfl rfl (by decide +kernel) ⟨Nat.le_of_ble_eq_true rfl, Nat.le_of_ble_eq_true rfl⟩ hK hN TH hS hA rfl hmx hkx (by decide) rfl hl.1 rfl (Nat.le_of_ble_eq_true rfl) dL_law_315 ⟨(by show _ ≤ 600000; omega), (by show _ ≤ 7302250; omega)⟩ (fun v3 kp3 L3 E3 H locs hq3 hx3 TH hS => ?_)
  obtain ⟨⟨xc4, rfl, hgpxc4_0⟩, rfl, rfl, hst3⟩ := hq3
  have hmf5 : tw_fv E3 mq 1 = .int xi1 := (hst3.1 mq 1 hmm (by rw [hkm]; decide)).trans hxi1
  have hmf6 : tw_fv E3 mq 14 = .int xi2 := (hst3.1 mq 14 hmm (by rw [hkm]; decide)).trans hxi2
  have g2 : ss_ok E3 xq := ss_ok_fr TH hst3 hmx hkx (by decide) (by decide) g2
  have g3 : ac_ok E3 xq := ac_ok_fr TH hst3 hmx hkx (by decide) (by decide) g3
  have r0 : rd_ok E3 mq := rd_ok_fr TH hst3 hmm hkm (by decide) (by decide) r0
  have r1 : eo_ok E3 mq := eo_ok_fr TH hst3 hmm hkm (by decide) (by decide) r1
  have r2 : ht_ok E3 mq := ht_ok_fr TH hst3 hmm hkm (by decide) (by decide) r2
  have r3 : dr_ok E3 mq := dr_ok_fr TH hst3 hmm hkm (by decide) (by decide) r3
  have r4 : ln_ok E3 mq := ln_ok_fr TH hst3 hmm hkm (by decide) (by decide) r4
  have r5 : dl_ok E3 mq := dl_ok_fr TH hst3 hmm hkm (by decide) (by decide) r5
  have r6 : fw_ok E3 mq := fw_ok_fr TH hst3 hmm hkm (by decide) (by decide) r6
  have r7 : kg_ok E3 mq := kg_ok_fr TH hst3 hmm hkm (by decide) (by decide) r7
  have r8 : sd_ok E3 mq := sd_ok_fr TH hst3 hmm hkm (by decide) (by decide) r8
  have r9 : rg_ok E3 mq := rg_ok_fr TH hst3 hmm hkm (by decide) (by decide) r9
  have hJ : lj_ok E3 xq mq := lj_ok_fr TH hst3 hmx hkx hmm hkm (by decide) (by decide) hJ
  refine W.eq (g2 := F0 m 318 ls [.int xc4]) rfl ?_
  refine lv_pop hx hb dL_law_318 rfl ?_
  refine lv_aload_n hx hb dL_law_319 rfl (lv_at hl 1 rfl) ?_
  have TH1 := TH
  have hT1 := TH.2.2
  refine tw_Vc (o := mq) (ci := 12) (n := 0) (post := (fun v kq Lq Eq => (∃ x : Int32, v = some (.int x) ∧ (-1) ≤ x.toInt ∧ x.toInt ≤ 149 ∧ rd_ok Eq mq ∧ eo_ok Eq mq ∧ ht_ok Eq mq ∧ dr_ok Eq mq ∧ ln_ok Eq mq ∧ dl_ok Eq mq ∧ fw_ok Eq mq ∧ kg_ok Eq mq) ∧ kp = kq ∧ L = Lq ∧ tw_fr kp L [(12, 2), (12, 3), (12, 4), (12, 28)] [326, 327, 328, 329, 332, 343, 344, 345, 346, 347, 348, 349] E3 Eq)) (As := []) (rest := []) ⟨hx, hb, hml, hown, hB⟩ (fun sz => tX12_breaks l D cs mq hmm hkm r0 r1 r2 r3 r4 r5 r6 r7 sz) cg_L_36_X12_breaks rfl rfl (by decide +kernel) ⟨Nat.le_of_ble_eq_true rfl, Nat.le_of_ble_eq_true rfl⟩ hK hN TH hS hA rfl hmm hkm (by decide) rfl hl.1 rfl (Nat.le_of_ble_eq_true rfl) dL_law_320 ⟨(by show _ ≤ 600000; omega), (by show _ ≤ 7302250; omega)⟩ (fun v7 kp7 L7 E7 H locs hq7 hx7 TH hS => ?_)
  obtain ⟨⟨xc8, rfl, hxc8a, hxc8b, hgpxc8_0, hgpxc8_1, hgpxc8_2, hgpxc8_3, hgpxc8_4, hgpxc8_5, hgpxc8_6, hgpxc8_7⟩, rfl, rfl, hst7⟩ := hq7
  have hmf9 : tw_fv E7 mq 1 = .int xi1 := (hst7.1 mq 1 hmm (by rw [hkm]; decide)).trans hmf5
  have hmf10 : tw_fv E7 mq 14 = .int xi2 := (hst7.1 mq 14 hmm (by rw [hkm]; decide)).trans hmf6
  have g2 : ss_ok E7 xq := ss_ok_fr TH hst7 hmx hkx (by decide) (by decide) g2
  have g3 : ac_ok E7 xq := ac_ok_fr TH hst7 hmx hkx (by decide) (by decide) g3
  have r8 : sd_ok E7 mq := sd_ok_fr TH hst7 hmm hkm (by decide) (by decide) r8
  have r9 : rg_ok E7 mq := rg_ok_fr TH hst7 hmm hkm (by decide) (by decide) r9
  have hJ : lj_ok E7 xq mq := lj_ok_fr TH hst7 hmx hkx hmm hkm (by decide) (by decide) hJ
  have hgpxc4_0 : gz_ok E7 xq := gz_ok_fr TH hst7 hmx hkx (by decide) (by decide) hgpxc4_0
  refine W.eq (g2 := F0 m 323 ls [.int xc8]) rfl ?_
  refine lv_pop hx hb dL_law_323 rfl ?_
  refine lv_goto (tgt := 1178) hx hb dL_law_324 (by decide) ?_
  exact kk _ _ _ _ _ _ _ (by omega) (by omega) ⟨hmx, hkx, hmm, hkm, hgpxc4_0, g2, g3, ⟨hgpxc8_0, hgpxc8_1, hgpxc8_2, hgpxc8_3, hgpxc8_4, hgpxc8_5, hgpxc8_6, hgpxc8_7, r8, r9⟩, hJ⟩ TH hS
set_option maxHeartbeats 4000000 in
set_option maxRecDepth 100000 in
theorem lop_5 {p : Program} {l : Launch} {e : Env} {s : State} {m : MethodId} {below : List Frame} {meth : Method} {c : Code} {D : va_G} {cs : Nat → ClassId} {A : Nat → Prop} {b Len : Nat} {xs : Nat → Int32} (hx : p.tables.exec = Jvm.exec) (hb : c.code = cL_law) (hr : meth.sig.returnType = ret) (hml : c.maxLocals = 4) (hB : ∀ w ∈ cx_big, w.before #[Value.ref b] s = true) (hown : s.vm.findClass "TreeMergeLaw" = some m.cls) (hlocks : meth.locks = false) (hK : va_K D vwCl (cx_TY cs) s) (hN : tw_NZ D A s s.heap) (hA : ∀ q : Nat, s.heap.size ≤ q → A q) (hA2 : ∀ q : Nat, A q → s.heap.size ≤ q) (hbA : ¬ A b) (hbl : b < s.heap.size) (hX : va_X b Len xs s s.heap) (hLen : Len ≤ 3072) {xq mq : Nat} {kp : Nat → Nat} {L : List Nat} {E : Nat → va_E} (i : Int32) (hi0 : 0 ≤ i.toInt) {cells slots : Nat} (hc : cells + 12 ≤ 600000) (hs : slots + 360 ≤ 7302250) {H : Heap} {locs : List Loc} {ls : Array Slot} (I : lv_I kp L E xq mq) (TH : tw_H D cs kp L E A H) (hS : va_S A s.heap H locs) (hl : lv_has ls 4 [(3, .int i), (2, .ref mq), (1, .ref xq), (0, .ref b)]) (hi1 : i.toInt + 6 ≤ Len) (kk : ∀ (kp1 : Nat → Nat) (L1 : List Nat) (E1 : Nat → va_E) (H1 : Heap) (locs1 : List Loc) (cells1 slots1 : Nat), cells1 ≤ cells + 12 → slots1 ≤ slots + 360 → lv_I kp1 L1 E1 xq mq → tw_H D cs kp1 L1 E1 A H1 → va_S A s.heap H1 locs1 → W p l e room_1 s m #[Value.ref b] below meth c H1 locs1 cells1 slots1 (lw_Z below #[Value.ref b] s) (F0 m 1178 ls [])) : W p l e room_1 s m #[Value.ref b] below meth c H locs cells slots (lw_Z below #[Value.ref b] s) (F0 m 327 ls []) := by
  obtain ⟨hmx, hkx, hmm, hkm, g1, g2, g3, ⟨r0, r1, r2, r3, r4, r5, r6, r7, r8, r9⟩, hJ⟩ := I
  have hJ0 := hJ
  refine lv_aload_n hx hb dL_law_327 rfl (lv_at hl 2 rfl) ?_
  obtain ⟨xi1, hxi1, hxi1a, hxi1b⟩ := tw_rd TH hmm hkm (by decide) (by decide) (k := 1) rfl
  obtain ⟨xi2, hxi2, hxi2a, hxi2b⟩ := tw_rd TH hmm hkm (by decide) (by decide) (k := 14) rfl
  have TH0 := TH
  have hT0 := TH.2.2
  have hTo := TH.2.2
  refine tw_Vc (o := xq) (ci := 11) (n := 0) (post := (fun v kq Lq Eq => (∃ x : Int32, v = some (.int x) ∧ ((tw_fi E (tw_fa E xq 1) 1) = 0 → tw_fi Eq (tw_fa E xq 0) 1 = (tw_fi E (tw_fa E xq 0) 1)) ∧ gz_ok Eq xq ∧ ss_ok Eq xq) ∧ tw_fr kp L [(1, 0), (3, 0), (9, 1), (9, 2), (9, 3), (9, 4), (10, 0), (11, 15)] [101, 102, 110, 111, 112, 113, 114, 115, 135, 140, 141, 142, 150, 151, 180] E Eq)) (As := []) (rest := []) ⟨hx, hb, hml, hown, hB⟩ (fun sz => tX11_first_vG l D cs xq hmx hkx g1 g2 sz) cg_L_37_X11_first rfl rfl (by decide +kernel) ⟨Nat.le_of_ble_eq_true rfl, Nat.le_of_ble_eq_true rfl⟩ hK hN TH hS hA rfl hmx hkx (by decide) rfl hl.1 rfl (Nat.le_of_ble_eq_true rfl) dL_law_328 ⟨(by show _ ≤ 600000; omega), (by show _ ≤ 7302250; omega)⟩ (fun v3 kp3 L3 E3 H locs hq3 hx3 TH hS => ?_)
  obtain ⟨⟨xc4, rfl, hpoxc4_0, hgpxc4_0, hgpxc4_1⟩, hst3⟩ := hq3
  obtain ⟨Em, THm, fm0, fm1⟩ := tw_mid TH0 hst3 hx3
  have hm3_xq := (hx3 xq hmx).1
  have hk3_xq : kp3 xq = 11 := ((hx3 xq hmx).2).trans hkx
  have hm3_mq := (hx3 mq hmm).1
  have hk3_mq : kp3 mq = 12 := ((hx3 mq hmm).2).trans hkm
  have g3 : ac_ok E3 xq := ac_ok_fr TH fm1 hm3_xq hk3_xq (by decide) (by decide) (ac_ok_fr THm fm0 hmx hkx (by decide) (by decide) g3)
  have r0 : rd_ok E3 mq := rd_ok_fr TH fm1 hm3_mq hk3_mq (by decide) (by decide) (rd_ok_fr THm fm0 hmm hkm (by decide) (by decide) r0)
  have r1 : eo_ok E3 mq := eo_ok_fr TH fm1 hm3_mq hk3_mq (by decide) (by decide) (eo_ok_fr THm fm0 hmm hkm (by decide) (by decide) r1)
  have r2 : ht_ok E3 mq := ht_ok_fr TH fm1 hm3_mq hk3_mq (by decide) (by decide) (ht_ok_fr THm fm0 hmm hkm (by decide) (by decide) r2)
  have r3 : dr_ok E3 mq := dr_ok_fr TH fm1 hm3_mq hk3_mq (by decide) (by decide) (dr_ok_fr THm fm0 hmm hkm (by decide) (by decide) r3)
  have r4 : ln_ok E3 mq := ln_ok_fr TH fm1 hm3_mq hk3_mq (by decide) (by decide) (ln_ok_fr THm fm0 hmm hkm (by decide) (by decide) r4)
  have r5 : dl_ok E3 mq := dl_ok_fr TH fm1 hm3_mq hk3_mq (by decide) (by decide) (dl_ok_fr THm fm0 hmm hkm (by decide) (by decide) r5)
  have r6 : fw_ok E3 mq := fw_ok_fr TH fm1 hm3_mq hk3_mq (by decide) (by decide) (fw_ok_fr THm fm0 hmm hkm (by decide) (by decide) r6)
  have r7 : kg_ok E3 mq := kg_ok_fr TH fm1 hm3_mq hk3_mq (by decide) (by decide) (kg_ok_fr THm fm0 hmm hkm (by decide) (by decide) r7)
  have r8 : sd_ok E3 mq := sd_ok_fr TH fm1 hm3_mq hk3_mq (by decide) (by decide) (sd_ok_fr THm fm0 hmm hkm (by decide) (by decide) r8)
  have r9 : rg_ok E3 mq := rg_ok_fr TH fm1 hm3_mq hk3_mq (by decide) (by decide) (rg_ok_fr THm fm0 hmm hkm (by decide) (by decide) r9)
  have hmf5 : tw_fv E3 mq 1 = .int xi1 := (hst3.1 mq 1 hmm (by rw [hkm]; decide)).trans hxi1
  have hmf6 : tw_fv E3 mq 14 = .int xi2 := (hst3.1 mq 14 hmm (by rw [hkm]; decide)).trans hxi2
  refine W.eq (g2 := F0 m 331 ls [.int xc4]) rfl ?_
  refine lv_pop hx hb dL_law_331 rfl ?_
  refine lv_aload_n hx hb dL_law_332 rfl (lv_at hl 1 rfl) ?_
  have TH1 := TH
  have hT1 := TH.2.2
  refine tw_Vc (o := mq) (ci := 12) (n := 0) (post := (fun v kq Lq Eq => (∃ x : Int32, v = some (.int x) ∧ (-1) ≤ x.toInt ∧ x.toInt ≤ 11 ∧ (xi2.toInt = 0 → tw_fi Eq mq 1 = xi1.toInt) ∧ rd_ok Eq mq ∧ eo_ok Eq mq ∧ ht_ok Eq mq ∧ dr_ok Eq mq ∧ ln_ok Eq mq ∧ dl_ok Eq mq ∧ fw_ok Eq mq ∧ kg_ok Eq mq) ∧ kp3 = kq ∧ L3 = Lq ∧ tw_fr kp3 L3 [(12, 1), (12, 2), (12, 3), (12, 4), (12, 26), (12, 27), (12, 28)] [326, 327, 328, 329, 330, 331, 332, 334, 335, 343, 344, 345, 346, 347, 348, 349, 353] E3 Eq)) (As := []) (rest := []) ⟨hx, hb, hml, hown, hB⟩ (fun sz => tX12_first_vG l D cs mq xi2 xi1 hm3_mq hk3_mq hmf6 hmf5 r0 r1 r2 r3 r4 r5 r6 r7 sz) cg_L_40_X12_first rfl rfl (by decide +kernel) ⟨Nat.le_of_ble_eq_true rfl, Nat.le_of_ble_eq_true rfl⟩ hK hN TH hS hA rfl hm3_mq hk3_mq (by decide) rfl hl.1 rfl (Nat.le_of_ble_eq_true rfl) dL_law_333 ⟨(by show _ ≤ 600000; omega), (by show _ ≤ 7302250; omega)⟩ (fun v7 kp7 L7 E7 H locs hq7 hx7 TH hS => ?_)
  obtain ⟨⟨xc8, rfl, hxc8a, hxc8b, hpoxc8_0, hgpxc8_0, hgpxc8_1, hgpxc8_2, hgpxc8_3, hgpxc8_4, hgpxc8_5, hgpxc8_6, hgpxc8_7⟩, rfl, rfl, hst7⟩ := hq7
  have hmf9 : tw_fv E7 mq 14 = .int xi2 := (hst7.1 mq 14 hm3_mq (by rw [hk3_mq]; decide)).trans hmf6
  have g3 : ac_ok E7 xq := ac_ok_fr TH hst7 hm3_xq hk3_xq (by decide) (by decide) g3
  have r8 : sd_ok E7 mq := sd_ok_fr TH hst7 hm3_mq hk3_mq (by decide) (by decide) r8
  have r9 : rg_ok E7 mq := rg_ok_fr TH hst7 hm3_mq hk3_mq (by decide) (by decide) r9
  have hgpxc4_0 : gz_ok E7 xq := gz_ok_fr TH hst7 hm3_xq hk3_xq (by decide) (by decide) hgpxc4_0
  have hgpxc4_1 : ss_ok E7 xq := ss_ok_fr TH hst7 hm3_xq hk3_xq (by decide) (by decide) hgpxc4_1
  refine W.eq (g2 := F0 m 336 ls [.int xc8]) rfl ?_
  refine lv_pop hx hb dL_law_336 rfl ?_
  refine lv_goto (tgt := 1178) hx hb dL_law_337 (by decide) ?_
  have hJ2 : lj_ok E7 xq mq := lj_len hT0 hT1 hx3 hst3 hst7 hmx hkx hmm hkm (by decide) (by decide) (by decide) (by decide) hJ0 (fun q1 q2 q3 => (by have e1 := tw_fi_fr hst3 hmm hkm (k := 1) (by decide); have e14 := tw_fi_fr hst3 hmm hkm (k := 14) (by decide); have e2 := tw_fi_of hmf5; have e3 := tw_fi_of hmf6; have C0 := hpoxc4_0 q1; have R0 := hpoxc8_0 (by omega); have q3 : tw_fi E (tw_fa E xq 0) 1 = tw_fi E mq 1 := q3; exact ⟨by omega, by omega⟩))
  exact kk _ _ _ _ _ _ _ (by omega) (by omega) ⟨hm3_xq, hk3_xq, hm3_mq, hk3_mq, hgpxc4_0, hgpxc4_1, g3, ⟨hgpxc8_0, hgpxc8_1, hgpxc8_2, hgpxc8_3, hgpxc8_4, hgpxc8_5, hgpxc8_6, hgpxc8_7, r8, r9⟩, hJ2⟩ TH hS
set_option maxHeartbeats 4000000 in
set_option maxRecDepth 100000 in
theorem lop_6 {p : Program} {l : Launch} {e : Env} {s : State} {m : MethodId} {below : List Frame} {meth : Method} {c : Code} {D : va_G} {cs : Nat → ClassId} {A : Nat → Prop} {b Len : Nat} {xs : Nat → Int32} (hx : p.tables.exec = Jvm.exec) (hb : c.code = cL_law) (hr : meth.sig.returnType = ret) (hml : c.maxLocals = 4) (hB : ∀ w ∈ cx_big, w.before #[Value.ref b] s = true) (hown : s.vm.findClass "TreeMergeLaw" = some m.cls) (hlocks : meth.locks = false) (hK : va_K D vwCl (cx_TY cs) s) (hN : tw_NZ D A s s.heap) (hA : ∀ q : Nat, s.heap.size ≤ q → A q) (hA2 : ∀ q : Nat, A q → s.heap.size ≤ q) (hbA : ¬ A b) (hbl : b < s.heap.size) (hX : va_X b Len xs s s.heap) (hLen : Len ≤ 3072) {xq mq : Nat} {kp : Nat → Nat} {L : List Nat} {E : Nat → va_E} (i : Int32) (hi0 : 0 ≤ i.toInt) {cells slots : Nat} (hc : cells + 12 ≤ 600000) (hs : slots + 360 ≤ 7302250) {H : Heap} {locs : List Loc} {ls : Array Slot} (I : lv_I kp L E xq mq) (TH : tw_H D cs kp L E A H) (hS : va_S A s.heap H locs) (hl : lv_has ls 4 [(3, .int i), (2, .ref mq), (1, .ref xq), (0, .ref b)]) (hi1 : i.toInt + 6 ≤ Len) (kk : ∀ (kp1 : Nat → Nat) (L1 : List Nat) (E1 : Nat → va_E) (H1 : Heap) (locs1 : List Loc) (cells1 slots1 : Nat), cells1 ≤ cells + 12 → slots1 ≤ slots + 360 → lv_I kp1 L1 E1 xq mq → tw_H D cs kp1 L1 E1 A H1 → va_S A s.heap H1 locs1 → W p l e room_1 s m #[Value.ref b] below meth c H1 locs1 cells1 slots1 (lw_Z below #[Value.ref b] s) (F0 m 1178 ls [])) : W p l e room_1 s m #[Value.ref b] below meth c H locs cells slots (lw_Z below #[Value.ref b] s) (F0 m 340 ls []) := by
  obtain ⟨hmx, hkx, hmm, hkm, g1, g2, g3, ⟨r0, r1, r2, r3, r4, r5, r6, r7, r8, r9⟩, hJ⟩ := I
  have hJ0 := hJ
  refine lv_aload_n hx hb dL_law_340 rfl (lv_at hl 2 rfl) ?_
  refine lv_aload_n hx hb dL_law_341 rfl (lv_at hl 3 rfl) ?_
  refine lv_iload_n hx hb dL_law_342 rfl (lv_at hl 0 rfl) ?_
  refine lv_iconst (v := 1) hx hb dL_law_343 (by decide) ?_
  refine lv_iadd hx hb dL_law_344 ?_
  refine lv_topi (fun zi1 ezi1 => ?_)
  have hzi1 : zi1.toInt = i.toInt + 1 := by rw [ezi1]; have : ((1 : Int32).toInt) = 1 := (by decide); have := ia_lo i; have := ia_hi i; exact (ia_add (by omega) (by omega)).trans (by omega)
  have h_344 := trivial
  refine va_sld hx hb hX hbl hbA hS (i := zi1) (vp_in_iff.mpr ⟨by omega, by omega⟩) dL_law_345 ?_
  obtain ⟨xs2, exs2⟩ : ∃ z : Int32, xs (Int32.toNatClampNeg zi1) = z := ⟨_, rfl⟩
  rw [exs2]
  refine lv_aload_n hx hb dL_law_346 rfl (lv_at hl 3 rfl) ?_
  refine lv_iload_n hx hb dL_law_347 rfl (lv_at hl 0 rfl) ?_
  refine lv_iconst (v := 2) hx hb dL_law_348 (by decide) ?_
  refine lv_iadd hx hb dL_law_349 ?_
  refine lv_topi (fun zi3 ezi3 => ?_)
  have hzi3 : zi3.toInt = i.toInt + 2 := by rw [ezi3]; have : ((2 : Int32).toInt) = 2 := (by decide); have := ia_lo i; have := ia_hi i; exact (ia_add (by omega) (by omega)).trans (by omega)
  have h_349 := trivial
  refine va_sld hx hb hX hbl hbA hS (i := zi3) (vp_in_iff.mpr ⟨by omega, by omega⟩) dL_law_350 ?_
  obtain ⟨xs4, exs4⟩ : ∃ z : Int32, xs (Int32.toNatClampNeg zi3) = z := ⟨_, rfl⟩
  rw [exs4]
  obtain ⟨xi5, hxi5, hxi5a, hxi5b⟩ := tw_rd TH hmm hkm (by decide) (by decide) (k := 1) rfl
  obtain ⟨xi6, hxi6, hxi6a, hxi6b⟩ := tw_rd TH hmm hkm (by decide) (by decide) (k := 14) rfl
  have TH0 := TH
  have hT0 := TH.2.2
  refine tw_Vc (o := xq) (ci := 11) (n := 2) (post := (fun v kq Lq Eq => (∃ x : Int32, v = some (.int x)) ∧ kp = kq ∧ L = Lq ∧ tw_fr kp L [(4, 0), (4, 1), (4, 5), (4, 6), (9, 2), (9, 3), (9, 4), (10, 0)] [102, 110, 111, 112, 113, 114, 150, 151, 152] E Eq)) (As := [.int xs2, .int xs4]) (rest := []) ⟨hx, hb, hml, hown, hB⟩ (fun sz => tX11_match l D cs xq xs2 xs4 hmx hkx sz) cg_L_41_X11_match rfl rfl (by decide +kernel) ⟨Nat.le_of_ble_eq_true rfl, Nat.le_of_ble_eq_true rfl⟩ hK hN TH hS hA rfl hmx hkx (by decide) rfl hl.1 rfl (Nat.le_of_ble_eq_true rfl) dL_law_351 ⟨(by show _ ≤ 600000; omega), (by show _ ≤ 7302250; omega)⟩ (fun v7 kp7 L7 E7 H locs hq7 hx7 TH hS => ?_)
  obtain ⟨⟨xc8, rfl⟩, rfl, rfl, hst7⟩ := hq7
  have hmf9 : tw_fv E7 mq 1 = .int xi5 := (hst7.1 mq 1 hmm (by rw [hkm]; decide)).trans hxi5
  have hmf10 : tw_fv E7 mq 14 = .int xi6 := (hst7.1 mq 14 hmm (by rw [hkm]; decide)).trans hxi6
  have g1 : gz_ok E7 xq := gz_ok_fr TH hst7 hmx hkx (by decide) (by decide) g1
  have g2 : ss_ok E7 xq := ss_ok_fr TH hst7 hmx hkx (by decide) (by decide) g2
  have g3 : ac_ok E7 xq := ac_ok_fr TH hst7 hmx hkx (by decide) (by decide) g3
  have r0 : rd_ok E7 mq := rd_ok_fr TH hst7 hmm hkm (by decide) (by decide) r0
  have r1 : eo_ok E7 mq := eo_ok_fr TH hst7 hmm hkm (by decide) (by decide) r1
  have r2 : ht_ok E7 mq := ht_ok_fr TH hst7 hmm hkm (by decide) (by decide) r2
  have r3 : dr_ok E7 mq := dr_ok_fr TH hst7 hmm hkm (by decide) (by decide) r3
  have r4 : ln_ok E7 mq := ln_ok_fr TH hst7 hmm hkm (by decide) (by decide) r4
  have r5 : dl_ok E7 mq := dl_ok_fr TH hst7 hmm hkm (by decide) (by decide) r5
  have r6 : fw_ok E7 mq := fw_ok_fr TH hst7 hmm hkm (by decide) (by decide) r6
  have r7 : kg_ok E7 mq := kg_ok_fr TH hst7 hmm hkm (by decide) (by decide) r7
  have r8 : sd_ok E7 mq := sd_ok_fr TH hst7 hmm hkm (by decide) (by decide) r8
  have r9 : rg_ok E7 mq := rg_ok_fr TH hst7 hmm hkm (by decide) (by decide) r9
  have hJ : lj_ok E7 xq mq := lj_ok_fr TH hst7 hmx hkx hmm hkm (by decide) (by decide) hJ
  refine W.eq (g2 := F0 m 354 ls [.int xc8]) rfl ?_
  refine lv_pop hx hb dL_law_354 rfl ?_
  refine lv_aload_n hx hb dL_law_355 rfl (lv_at hl 1 rfl) ?_
  refine lv_aload_n hx hb dL_law_356 rfl (lv_at hl 3 rfl) ?_
  refine lv_iload_n hx hb dL_law_357 rfl (lv_at hl 0 rfl) ?_
  refine lv_iconst (v := 1) hx hb dL_law_358 (by decide) ?_
  refine lv_iadd hx hb dL_law_359 ?_
  refine lv_topi (fun zi11 ezi11 => ?_)
  have hzi11 : zi11.toInt = i.toInt + 1 := by rw [ezi11]; have : ((1 : Int32).toInt) = 1 := (by decide); have := ia_lo i; have := ia_hi i; exact (ia_add (by omega) (by omega)).trans (by omega)
  have h_359 := trivial
  refine va_sld hx hb hX hbl hbA hS (i := zi11) (vp_in_iff.mpr ⟨by omega, by omega⟩) dL_law_360 ?_
  obtain ⟨xs12, exs12⟩ : ∃ z : Int32, xs (Int32.toNatClampNeg zi11) = z := ⟨_, rfl⟩
  rw [exs12]
  have qxs12 : xs2 = xs12 := by rw [← exs12, ← exs2, ia_ext (a := zi11) (b := zi1) (by omega)]
  subst qxs12
  refine lv_aload_n hx hb dL_law_361 rfl (lv_at hl 3 rfl) ?_
  refine lv_iload_n hx hb dL_law_362 rfl (lv_at hl 0 rfl) ?_
  refine lv_iconst (v := 2) hx hb dL_law_363 (by decide) ?_
  refine lv_iadd hx hb dL_law_364 ?_
  refine lv_topi (fun zi13 ezi13 => ?_)
  have hzi13 : zi13.toInt = i.toInt + 2 := by rw [ezi13]; have : ((2 : Int32).toInt) = 2 := (by decide); have := ia_lo i; have := ia_hi i; exact (ia_add (by omega) (by omega)).trans (by omega)
  have h_364 := trivial
  refine va_sld hx hb hX hbl hbA hS (i := zi13) (vp_in_iff.mpr ⟨by omega, by omega⟩) dL_law_365 ?_
  obtain ⟨xs14, exs14⟩ : ∃ z : Int32, xs (Int32.toNatClampNeg zi13) = z := ⟨_, rfl⟩
  rw [exs14]
  have qxs14 : xs4 = xs14 := by rw [← exs14, ← exs4, ia_ext (a := zi13) (b := zi3) (by omega)]
  subst qxs14
  have TH1 := TH
  have hT1 := TH.2.2
  refine tw_Vc (o := mq) (ci := 12) (n := 2) (post := (fun v kq Lq Eq => (∃ x : Int32, v = some (.int x) ∧ rd_ok Eq mq ∧ eo_ok Eq mq ∧ ht_ok Eq mq ∧ dr_ok Eq mq ∧ ln_ok Eq mq ∧ dl_ok Eq mq ∧ fw_ok Eq mq ∧ kg_ok Eq mq) ∧ kp = kq ∧ L = Lq ∧ tw_fr kp L [(12, 2), (12, 3), (12, 4), (12, 28), (12, 50), (12, 51)] [326, 327, 328, 329, 332, 343, 344, 345, 346, 347, 354, 355, 356, 357, 358] E7 Eq)) (As := [.int xs2, .int xs4]) (rest := []) ⟨hx, hb, hml, hown, hB⟩ (fun sz => tX12_match l D cs mq xs2 xs4 hmm hkm r0 r1 r2 r3 r4 r5 r6 r7 sz) cg_L_45_X12_match rfl rfl (by decide +kernel) ⟨Nat.le_of_ble_eq_true rfl, Nat.le_of_ble_eq_true rfl⟩ hK hN TH hS hA rfl hmm hkm (by decide) rfl hl.1 rfl (Nat.le_of_ble_eq_true rfl) dL_law_366 ⟨(by show _ ≤ 600000; omega), (by show _ ≤ 7302250; omega)⟩ (fun v15 kp15 L15 E15 H locs hq15 hx15 TH hS => ?_)
  obtain ⟨⟨xc16, rfl, hgpxc16_0, hgpxc16_1, hgpxc16_2, hgpxc16_3, hgpxc16_4, hgpxc16_5, hgpxc16_6, hgpxc16_7⟩, rfl, rfl, hst15⟩ := hq15
  have hmf17 : tw_fv E15 mq 1 = .int xi5 := (hst15.1 mq 1 hmm (by rw [hkm]; decide)).trans hmf9
  have hmf18 : tw_fv E15 mq 14 = .int xi6 := (hst15.1 mq 14 hmm (by rw [hkm]; decide)).trans hmf10
  have g1 : gz_ok E15 xq := gz_ok_fr TH hst15 hmx hkx (by decide) (by decide) g1
  have g2 : ss_ok E15 xq := ss_ok_fr TH hst15 hmx hkx (by decide) (by decide) g2
  have g3 : ac_ok E15 xq := ac_ok_fr TH hst15 hmx hkx (by decide) (by decide) g3
  have r8 : sd_ok E15 mq := sd_ok_fr TH hst15 hmm hkm (by decide) (by decide) r8
  have r9 : rg_ok E15 mq := rg_ok_fr TH hst15 hmm hkm (by decide) (by decide) r9
  have hJ : lj_ok E15 xq mq := lj_ok_fr TH hst15 hmx hkx hmm hkm (by decide) (by decide) hJ
  refine W.eq (g2 := F0 m 369 ls [.int xc16]) rfl ?_
  refine lv_pop hx hb dL_law_369 rfl ?_
  refine lv_goto (tgt := 1178) hx hb dL_law_370 (by decide) ?_
  exact kk _ _ _ _ _ _ _ (by omega) (by omega) ⟨hmx, hkx, hmm, hkm, g1, g2, g3, ⟨hgpxc16_0, hgpxc16_1, hgpxc16_2, hgpxc16_3, hgpxc16_4, hgpxc16_5, hgpxc16_6, hgpxc16_7, r8, r9⟩, hJ⟩ TH hS
set_option maxHeartbeats 4000000 in
set_option maxRecDepth 100000 in
theorem lop_7 {p : Program} {l : Launch} {e : Env} {s : State} {m : MethodId} {below : List Frame} {meth : Method} {c : Code} {D : va_G} {cs : Nat → ClassId} {A : Nat → Prop} {b Len : Nat} {xs : Nat → Int32} (hx : p.tables.exec = Jvm.exec) (hb : c.code = cL_law) (hr : meth.sig.returnType = ret) (hml : c.maxLocals = 4) (hB : ∀ w ∈ cx_big, w.before #[Value.ref b] s = true) (hown : s.vm.findClass "TreeMergeLaw" = some m.cls) (hlocks : meth.locks = false) (hK : va_K D vwCl (cx_TY cs) s) (hN : tw_NZ D A s s.heap) (hA : ∀ q : Nat, s.heap.size ≤ q → A q) (hA2 : ∀ q : Nat, A q → s.heap.size ≤ q) (hbA : ¬ A b) (hbl : b < s.heap.size) (hX : va_X b Len xs s s.heap) (hLen : Len ≤ 3072) {xq mq : Nat} {kp : Nat → Nat} {L : List Nat} {E : Nat → va_E} (i : Int32) (hi0 : 0 ≤ i.toInt) {cells slots : Nat} (hc : cells + 12 ≤ 600000) (hs : slots + 360 ≤ 7302250) {H : Heap} {locs : List Loc} {ls : Array Slot} (I : lv_I kp L E xq mq) (TH : tw_H D cs kp L E A H) (hS : va_S A s.heap H locs) (hl : lv_has ls 4 [(3, .int i), (2, .ref mq), (1, .ref xq), (0, .ref b)]) (hi1 : i.toInt + 6 ≤ Len) (kk : ∀ (kp1 : Nat → Nat) (L1 : List Nat) (E1 : Nat → va_E) (H1 : Heap) (locs1 : List Loc) (cells1 slots1 : Nat), cells1 ≤ cells + 12 → slots1 ≤ slots + 360 → lv_I kp1 L1 E1 xq mq → tw_H D cs kp1 L1 E1 A H1 → va_S A s.heap H1 locs1 → W p l e room_1 s m #[Value.ref b] below meth c H1 locs1 cells1 slots1 (lw_Z below #[Value.ref b] s) (F0 m 1178 ls [])) : W p l e room_1 s m #[Value.ref b] below meth c H locs cells slots (lw_Z below #[Value.ref b] s) (F0 m 373 ls []) := by
  obtain ⟨hmx, hkx, hmm, hkm, g1, g2, g3, ⟨r0, r1, r2, r3, r4, r5, r6, r7, r8, r9⟩, hJ⟩ := I
  have hJ0 := hJ
  refine lv_aload_n hx hb dL_law_373 rfl (lv_at hl 2 rfl) ?_
  refine lv_aload_n hx hb dL_law_374 rfl (lv_at hl 3 rfl) ?_
  refine lv_iload_n hx hb dL_law_375 rfl (lv_at hl 0 rfl) ?_
  refine lv_iconst (v := 1) hx hb dL_law_376 (by decide) ?_
  refine lv_iadd hx hb dL_law_377 ?_
  refine lv_topi (fun zi1 ezi1 => ?_)
  have hzi1 : zi1.toInt = i.toInt + 1 := by rw [ezi1]; have : ((1 : Int32).toInt) = 1 := (by decide); have := ia_lo i; have := ia_hi i; exact (ia_add (by omega) (by omega)).trans (by omega)
  have h_377 := trivial
  refine va_sld hx hb hX hbl hbA hS (i := zi1) (vp_in_iff.mpr ⟨by omega, by omega⟩) dL_law_378 ?_
  obtain ⟨xs2, exs2⟩ : ∃ z : Int32, xs (Int32.toNatClampNeg zi1) = z := ⟨_, rfl⟩
  rw [exs2]
  obtain ⟨xi3, hxi3, hxi3a, hxi3b⟩ := tw_rd TH hmm hkm (by decide) (by decide) (k := 1) rfl
  obtain ⟨xi4, hxi4, hxi4a, hxi4b⟩ := tw_rd TH hmm hkm (by decide) (by decide) (k := 14) rfl
  have TH0 := TH
  have hT0 := TH.2.2
  have hTo := TH.2.2
  refine tw_Vc (o := xq) (ci := 11) (n := 1) (post := (fun v kq Lq Eq => (∃ x : Int32, v = some (.int x) ∧ ((tw_fi E (tw_fa E xq 1) 1) = 0 → tw_fi Eq (tw_fa E xq 0) 1 = (tw_fi E (tw_fa E xq 0) 1)) ∧ gz_ok Eq xq ∧ ss_ok Eq xq) ∧ tw_fr kp L [(1, 0), (3, 0), (4, 0), (4, 1), (4, 5), (4, 6), (9, 1), (9, 2), (9, 3), (9, 4), (10, 0), (11, 15)] [101, 102, 110, 111, 112, 113, 114, 115, 135, 140, 141, 142, 150, 151, 152, 180] E Eq)) (As := [.int xs2]) (rest := []) ⟨hx, hb, hml, hown, hB⟩ (fun sz => tX11_next_vG l D cs xq xs2 hmx hkx g1 g2 sz) cg_L_46_X11_next rfl rfl (by decide +kernel) ⟨Nat.le_of_ble_eq_true rfl, Nat.le_of_ble_eq_true rfl⟩ hK hN TH hS hA rfl hmx hkx (by decide) rfl hl.1 rfl (Nat.le_of_ble_eq_true rfl) dL_law_379 ⟨(by show _ ≤ 600000; omega), (by show _ ≤ 7302250; omega)⟩ (fun v5 kp5 L5 E5 H locs hq5 hx5 TH hS => ?_)
  obtain ⟨⟨xc6, rfl, hpoxc6_0, hgpxc6_0, hgpxc6_1⟩, hst5⟩ := hq5
  obtain ⟨Em, THm, fm0, fm1⟩ := tw_mid TH0 hst5 hx5
  have hm5_xq := (hx5 xq hmx).1
  have hk5_xq : kp5 xq = 11 := ((hx5 xq hmx).2).trans hkx
  have hm5_mq := (hx5 mq hmm).1
  have hk5_mq : kp5 mq = 12 := ((hx5 mq hmm).2).trans hkm
  have g3 : ac_ok E5 xq := ac_ok_fr TH fm1 hm5_xq hk5_xq (by decide) (by decide) (ac_ok_fr THm fm0 hmx hkx (by decide) (by decide) g3)
  have r0 : rd_ok E5 mq := rd_ok_fr TH fm1 hm5_mq hk5_mq (by decide) (by decide) (rd_ok_fr THm fm0 hmm hkm (by decide) (by decide) r0)
  have r1 : eo_ok E5 mq := eo_ok_fr TH fm1 hm5_mq hk5_mq (by decide) (by decide) (eo_ok_fr THm fm0 hmm hkm (by decide) (by decide) r1)
  have r2 : ht_ok E5 mq := ht_ok_fr TH fm1 hm5_mq hk5_mq (by decide) (by decide) (ht_ok_fr THm fm0 hmm hkm (by decide) (by decide) r2)
  have r3 : dr_ok E5 mq := dr_ok_fr TH fm1 hm5_mq hk5_mq (by decide) (by decide) (dr_ok_fr THm fm0 hmm hkm (by decide) (by decide) r3)
  have r4 : ln_ok E5 mq := ln_ok_fr TH fm1 hm5_mq hk5_mq (by decide) (by decide) (ln_ok_fr THm fm0 hmm hkm (by decide) (by decide) r4)
  have r5 : dl_ok E5 mq := dl_ok_fr TH fm1 hm5_mq hk5_mq (by decide) (by decide) (dl_ok_fr THm fm0 hmm hkm (by decide) (by decide) r5)
  have r6 : fw_ok E5 mq := fw_ok_fr TH fm1 hm5_mq hk5_mq (by decide) (by decide) (fw_ok_fr THm fm0 hmm hkm (by decide) (by decide) r6)
  have r7 : kg_ok E5 mq := kg_ok_fr TH fm1 hm5_mq hk5_mq (by decide) (by decide) (kg_ok_fr THm fm0 hmm hkm (by decide) (by decide) r7)
  have r8 : sd_ok E5 mq := sd_ok_fr TH fm1 hm5_mq hk5_mq (by decide) (by decide) (sd_ok_fr THm fm0 hmm hkm (by decide) (by decide) r8)
  have r9 : rg_ok E5 mq := rg_ok_fr TH fm1 hm5_mq hk5_mq (by decide) (by decide) (rg_ok_fr THm fm0 hmm hkm (by decide) (by decide) r9)
  have hmf7 : tw_fv E5 mq 1 = .int xi3 := (hst5.1 mq 1 hmm (by rw [hkm]; decide)).trans hxi3
  have hmf8 : tw_fv E5 mq 14 = .int xi4 := (hst5.1 mq 14 hmm (by rw [hkm]; decide)).trans hxi4
  refine W.eq (g2 := F0 m 382 ls [.int xc6]) rfl ?_
  refine lv_pop hx hb dL_law_382 rfl ?_
  refine lv_aload_n hx hb dL_law_383 rfl (lv_at hl 1 rfl) ?_
  refine lv_aload_n hx hb dL_law_384 rfl (lv_at hl 3 rfl) ?_
  refine lv_iload_n hx hb dL_law_385 rfl (lv_at hl 0 rfl) ?_
  refine lv_iconst (v := 1) hx hb dL_law_386 (by decide) ?_
  refine lv_iadd hx hb dL_law_387 ?_
  refine lv_topi (fun zi9 ezi9 => ?_)
  have hzi9 : zi9.toInt = i.toInt + 1 := by rw [ezi9]; have : ((1 : Int32).toInt) = 1 := (by decide); have := ia_lo i; have := ia_hi i; exact (ia_add (by omega) (by omega)).trans (by omega)
  have h_387 := trivial
  refine va_sld hx hb hX hbl hbA hS (i := zi9) (vp_in_iff.mpr ⟨by omega, by omega⟩) dL_law_388 ?_
  obtain ⟨xs10, exs10⟩ : ∃ z : Int32, xs (Int32.toNatClampNeg zi9) = z := ⟨_, rfl⟩
  rw [exs10]
  have qxs10 : xs2 = xs10 := by rw [← exs10, ← exs2, ia_ext (a := zi9) (b := zi1) (by omega)]
  subst qxs10
  have TH1 := TH
  have hT1 := TH.2.2
  refine tw_Vc (o := mq) (ci := 12) (n := 1) (post := (fun v kq Lq Eq => (∃ x : Int32, v = some (.int x) ∧ (-1) ≤ x.toInt ∧ x.toInt ≤ 11 ∧ (xi4.toInt = 0 → tw_fi Eq mq 1 = xi3.toInt) ∧ rd_ok Eq mq ∧ eo_ok Eq mq ∧ ht_ok Eq mq ∧ dr_ok Eq mq ∧ ln_ok Eq mq ∧ dl_ok Eq mq ∧ fw_ok Eq mq ∧ kg_ok Eq mq) ∧ kp5 = kq ∧ L5 = Lq ∧ tw_fr kp5 L5 [(12, 1), (12, 2), (12, 3), (12, 4), (12, 26), (12, 27), (12, 28), (12, 50), (12, 51)] [326, 327, 328, 329, 330, 331, 332, 334, 335, 343, 344, 345, 346, 347, 348, 349, 353, 354, 355, 356, 357, 358] E5 Eq)) (As := [.int xs2]) (rest := []) ⟨hx, hb, hml, hown, hB⟩ (fun sz => tX12_next__vG l D cs mq xs2 xi4 xi3 hm5_mq hk5_mq hmf8 hmf7 r0 r1 r2 r3 r4 r5 r6 r7 sz) cg_L_50_X12_next_ rfl rfl (by decide +kernel) ⟨Nat.le_of_ble_eq_true rfl, Nat.le_of_ble_eq_true rfl⟩ hK hN TH hS hA rfl hm5_mq hk5_mq (by decide) rfl hl.1 rfl (Nat.le_of_ble_eq_true rfl) dL_law_389 ⟨(by show _ ≤ 600000; omega), (by show _ ≤ 7302250; omega)⟩ (fun v11 kp11 L11 E11 H locs hq11 hx11 TH hS => ?_)
  obtain ⟨⟨xc12, rfl, hxc12a, hxc12b, hpoxc12_0, hgpxc12_0, hgpxc12_1, hgpxc12_2, hgpxc12_3, hgpxc12_4, hgpxc12_5, hgpxc12_6, hgpxc12_7⟩, rfl, rfl, hst11⟩ := hq11
  have hmf13 : tw_fv E11 mq 14 = .int xi4 := (hst11.1 mq 14 hm5_mq (by rw [hk5_mq]; decide)).trans hmf8
  have g3 : ac_ok E11 xq := ac_ok_fr TH hst11 hm5_xq hk5_xq (by decide) (by decide) g3
  have r8 : sd_ok E11 mq := sd_ok_fr TH hst11 hm5_mq hk5_mq (by decide) (by decide) r8
  have r9 : rg_ok E11 mq := rg_ok_fr TH hst11 hm5_mq hk5_mq (by decide) (by decide) r9
  have hgpxc6_0 : gz_ok E11 xq := gz_ok_fr TH hst11 hm5_xq hk5_xq (by decide) (by decide) hgpxc6_0
  have hgpxc6_1 : ss_ok E11 xq := ss_ok_fr TH hst11 hm5_xq hk5_xq (by decide) (by decide) hgpxc6_1
  refine W.eq (g2 := F0 m 392 ls [.int xc12]) rfl ?_
  refine lv_pop hx hb dL_law_392 rfl ?_
  refine lv_goto (tgt := 1178) hx hb dL_law_393 (by decide) ?_
  have hJ2 : lj_ok E11 xq mq := lj_len hT0 hT1 hx5 hst5 hst11 hmx hkx hmm hkm (by decide) (by decide) (by decide) (by decide) hJ0 (fun q1 q2 q3 => (by have e1 := tw_fi_fr hst5 hmm hkm (k := 1) (by decide); have e14 := tw_fi_fr hst5 hmm hkm (k := 14) (by decide); have e2 := tw_fi_of hmf7; have e3 := tw_fi_of hmf8; have C0 := hpoxc6_0 q1; have R0 := hpoxc12_0 (by omega); have q3 : tw_fi E (tw_fa E xq 0) 1 = tw_fi E mq 1 := q3; exact ⟨by omega, by omega⟩))
  exact kk _ _ _ _ _ _ _ (by omega) (by omega) ⟨hm5_xq, hk5_xq, hm5_mq, hk5_mq, hgpxc6_0, hgpxc6_1, g3, ⟨hgpxc12_0, hgpxc12_1, hgpxc12_2, hgpxc12_3, hgpxc12_4, hgpxc12_5, hgpxc12_6, hgpxc12_7, r8, r9⟩, hJ2⟩ TH hS
set_option maxHeartbeats 4000000 in
set_option maxRecDepth 100000 in
theorem lop_8 {p : Program} {l : Launch} {e : Env} {s : State} {m : MethodId} {below : List Frame} {meth : Method} {c : Code} {D : va_G} {cs : Nat → ClassId} {A : Nat → Prop} {b Len : Nat} {xs : Nat → Int32} (hx : p.tables.exec = Jvm.exec) (hb : c.code = cL_law) (hr : meth.sig.returnType = ret) (hml : c.maxLocals = 4) (hB : ∀ w ∈ cx_big, w.before #[Value.ref b] s = true) (hown : s.vm.findClass "TreeMergeLaw" = some m.cls) (hlocks : meth.locks = false) (hK : va_K D vwCl (cx_TY cs) s) (hN : tw_NZ D A s s.heap) (hA : ∀ q : Nat, s.heap.size ≤ q → A q) (hA2 : ∀ q : Nat, A q → s.heap.size ≤ q) (hbA : ¬ A b) (hbl : b < s.heap.size) (hX : va_X b Len xs s s.heap) (hLen : Len ≤ 3072) {xq mq : Nat} {kp : Nat → Nat} {L : List Nat} {E : Nat → va_E} (i : Int32) (hi0 : 0 ≤ i.toInt) {cells slots : Nat} (hc : cells + 12 ≤ 600000) (hs : slots + 360 ≤ 7302250) {H : Heap} {locs : List Loc} {ls : Array Slot} (I : lv_I kp L E xq mq) (TH : tw_H D cs kp L E A H) (hS : va_S A s.heap H locs) (hl : lv_has ls 4 [(3, .int i), (2, .ref mq), (1, .ref xq), (0, .ref b)]) (hi1 : i.toInt + 6 ≤ Len) (kk : ∀ (kp1 : Nat → Nat) (L1 : List Nat) (E1 : Nat → va_E) (H1 : Heap) (locs1 : List Loc) (cells1 slots1 : Nat), cells1 ≤ cells + 12 → slots1 ≤ slots + 360 → lv_I kp1 L1 E1 xq mq → tw_H D cs kp1 L1 E1 A H1 → va_S A s.heap H1 locs1 → W p l e room_1 s m #[Value.ref b] below meth c H1 locs1 cells1 slots1 (lw_Z below #[Value.ref b] s) (F0 m 1178 ls [])) : W p l e room_1 s m #[Value.ref b] below meth c H locs cells slots (lw_Z below #[Value.ref b] s) (F0 m 396 ls []) := by
  obtain ⟨hmx, hkx, hmm, hkm, g1, g2, g3, ⟨r0, r1, r2, r3, r4, r5, r6, r7, r8, r9⟩, hJ⟩ := I
  have hJ0 := hJ
  refine lv_aload_n hx hb dL_law_396 rfl (lv_at hl 2 rfl) ?_
  refine lv_aload_n hx hb dL_law_397 rfl (lv_at hl 3 rfl) ?_
  refine lv_iload_n hx hb dL_law_398 rfl (lv_at hl 0 rfl) ?_
  refine lv_iconst (v := 1) hx hb dL_law_399 (by decide) ?_
  refine lv_iadd hx hb dL_law_400 ?_
  refine lv_topi (fun zi1 ezi1 => ?_)
  have hzi1 : zi1.toInt = i.toInt + 1 := by rw [ezi1]; have : ((1 : Int32).toInt) = 1 := (by decide); have := ia_lo i; have := ia_hi i; exact (ia_add (by omega) (by omega)).trans (by omega)
  have h_400 := trivial
  refine va_sld hx hb hX hbl hbA hS (i := zi1) (vp_in_iff.mpr ⟨by omega, by omega⟩) dL_law_401 ?_
  obtain ⟨xs2, exs2⟩ : ∃ z : Int32, xs (Int32.toNatClampNeg zi1) = z := ⟨_, rfl⟩
  rw [exs2]
  obtain ⟨xi3, hxi3, hxi3a, hxi3b⟩ := tw_rd TH hmm hkm (by decide) (by decide) (k := 1) rfl
  obtain ⟨xi4, hxi4, hxi4a, hxi4b⟩ := tw_rd TH hmm hkm (by decide) (by decide) (k := 14) rfl
  have TH0 := TH
  have hT0 := TH.2.2
  refine tw_Vc (o := xq) (ci := 11) (n := 1) (post := (fun v kq Lq Eq => (∃ x : Int32, v = some (.int x) ∧ 0 ≤ x.toInt ∧ x.toInt ≤ 1) ∧ kp = kq ∧ L = Lq ∧ tw_fr kp L [(0, 0), (0, 1), (10, 0)] [102, 110, 111, 112, 113, 114, 115] E Eq)) (As := [.int xs2]) (rest := []) ⟨hx, hb, hml, hown, hB⟩ (fun sz => tX11_begin l D cs xq xs2 hmx hkx sz) cg_L_51_X11_begin rfl rfl (by decide +kernel) ⟨Nat.le_of_ble_eq_true rfl, Nat.le_of_ble_eq_true rfl⟩ hK hN TH hS hA rfl hmx hkx (by decide) rfl hl.1 rfl (Nat.le_of_ble_eq_true rfl) dL_law_402 ⟨(by show _ ≤ 600000; omega), (by show _ ≤ 7302250; omega)⟩ (fun v5 kp5 L5 E5 H locs hq5 hx5 TH hS => ?_)
  obtain ⟨⟨xc6, rfl, hxc6a, hxc6b⟩, rfl, rfl, hst5⟩ := hq5
  have hmf7 : tw_fv E5 mq 1 = .int xi3 := (hst5.1 mq 1 hmm (by rw [hkm]; decide)).trans hxi3
  have hmf8 : tw_fv E5 mq 14 = .int xi4 := (hst5.1 mq 14 hmm (by rw [hkm]; decide)).trans hxi4
  have g1 : gz_ok E5 xq := gz_ok_fr TH hst5 hmx hkx (by decide) (by decide) g1
  have g2 : ss_ok E5 xq := ss_ok_fr TH hst5 hmx hkx (by decide) (by decide) g2
  have g3 : ac_ok E5 xq := ac_ok_fr TH hst5 hmx hkx (by decide) (by decide) g3
  have r0 : rd_ok E5 mq := rd_ok_fr TH hst5 hmm hkm (by decide) (by decide) r0
  have r1 : eo_ok E5 mq := eo_ok_fr TH hst5 hmm hkm (by decide) (by decide) r1
  have r2 : ht_ok E5 mq := ht_ok_fr TH hst5 hmm hkm (by decide) (by decide) r2
  have r3 : dr_ok E5 mq := dr_ok_fr TH hst5 hmm hkm (by decide) (by decide) r3
  have r4 : ln_ok E5 mq := ln_ok_fr TH hst5 hmm hkm (by decide) (by decide) r4
  have r5 : dl_ok E5 mq := dl_ok_fr TH hst5 hmm hkm (by decide) (by decide) r5
  have r6 : fw_ok E5 mq := fw_ok_fr TH hst5 hmm hkm (by decide) (by decide) r6
  have r7 : kg_ok E5 mq := kg_ok_fr TH hst5 hmm hkm (by decide) (by decide) r7
  have r8 : sd_ok E5 mq := sd_ok_fr TH hst5 hmm hkm (by decide) (by decide) r8
  have r9 : rg_ok E5 mq := rg_ok_fr TH hst5 hmm hkm (by decide) (by decide) r9
  have hJ : lj_ok E5 xq mq := lj_ok_fr TH hst5 hmx hkx hmm hkm (by decide) (by decide) hJ
  refine W.eq (g2 := F0 m 405 ls [.int xc6]) rfl ?_
  refine lv_pop hx hb dL_law_405 rfl ?_
  refine lv_aload_n hx hb dL_law_406 rfl (lv_at hl 1 rfl) ?_
  refine lv_aload_n hx hb dL_law_407 rfl (lv_at hl 3 rfl) ?_
  refine lv_iload_n hx hb dL_law_408 rfl (lv_at hl 0 rfl) ?_
  refine lv_iconst (v := 1) hx hb dL_law_409 (by decide) ?_
  refine lv_iadd hx hb dL_law_410 ?_
  refine lv_topi (fun zi9 ezi9 => ?_)
  have hzi9 : zi9.toInt = i.toInt + 1 := by rw [ezi9]; have : ((1 : Int32).toInt) = 1 := (by decide); have := ia_lo i; have := ia_hi i; exact (ia_add (by omega) (by omega)).trans (by omega)
  have h_410 := trivial
  refine va_sld hx hb hX hbl hbA hS (i := zi9) (vp_in_iff.mpr ⟨by omega, by omega⟩) dL_law_411 ?_
  obtain ⟨xs10, exs10⟩ : ∃ z : Int32, xs (Int32.toNatClampNeg zi9) = z := ⟨_, rfl⟩
  rw [exs10]
  have qxs10 : xs2 = xs10 := by rw [← exs10, ← exs2, ia_ext (a := zi9) (b := zi1) (by omega)]
  subst qxs10
  have TH1 := TH
  have hT1 := TH.2.2
  refine tw_Vc (o := mq) (ci := 12) (n := 1) (post := (fun v kq Lq Eq => (∃ x : Int32, v = some (.int x) ∧ 0 ≤ x.toInt ∧ x.toInt ≤ 1 ∧ rd_ok Eq mq ∧ eo_ok Eq mq ∧ ht_ok Eq mq ∧ dr_ok Eq mq ∧ ln_ok Eq mq ∧ dl_ok Eq mq ∧ fw_ok Eq mq) ∧ kp = kq ∧ L = Lq ∧ tw_fr kp L [(12, 29), (12, 52)] [326, 327, 328, 329] E5 Eq)) (As := [.int xs2]) (rest := []) ⟨hx, hb, hml, hown, hB⟩ (fun sz => tX12_begin l D cs mq xs2 hmm hkm r0 r1 r2 r3 r4 r5 r6 sz) cg_L_54_X12_begin rfl rfl (by decide +kernel) ⟨Nat.le_of_ble_eq_true rfl, Nat.le_of_ble_eq_true rfl⟩ hK hN TH hS hA rfl hmm hkm (by decide) rfl hl.1 rfl (Nat.le_of_ble_eq_true rfl) dL_law_412 ⟨(by show _ ≤ 600000; omega), (by show _ ≤ 7302250; omega)⟩ (fun v11 kp11 L11 E11 H locs hq11 hx11 TH hS => ?_)
  obtain ⟨⟨xc12, rfl, hxc12a, hxc12b, hgpxc12_0, hgpxc12_1, hgpxc12_2, hgpxc12_3, hgpxc12_4, hgpxc12_5, hgpxc12_6⟩, rfl, rfl, hst11⟩ := hq11
  have hmf13 : tw_fv E11 mq 1 = .int xi3 := (hst11.1 mq 1 hmm (by rw [hkm]; decide)).trans hmf7
  have hmf14 : tw_fv E11 mq 14 = .int xi4 := (hst11.1 mq 14 hmm (by rw [hkm]; decide)).trans hmf8
  have g1 : gz_ok E11 xq := gz_ok_fr TH hst11 hmx hkx (by decide) (by decide) g1
  have g2 : ss_ok E11 xq := ss_ok_fr TH hst11 hmx hkx (by decide) (by decide) g2
  have g3 : ac_ok E11 xq := ac_ok_fr TH hst11 hmx hkx (by decide) (by decide) g3
  have r7 : kg_ok E11 mq := kg_ok_fr TH hst11 hmm hkm (by decide) (by decide) r7
  have r8 : sd_ok E11 mq := sd_ok_fr TH hst11 hmm hkm (by decide) (by decide) r8
  have r9 : rg_ok E11 mq := rg_ok_fr TH hst11 hmm hkm (by decide) (by decide) r9
  have hJ : lj_ok E11 xq mq := lj_ok_fr TH hst11 hmx hkx hmm hkm (by decide) (by decide) hJ
  refine W.eq (g2 := F0 m 415 ls [.int xc12]) rfl ?_
  refine lv_pop hx hb dL_law_415 rfl ?_
  refine lv_goto (tgt := 1178) hx hb dL_law_416 (by decide) ?_
  exact kk _ _ _ _ _ _ _ (by omega) (by omega) ⟨hmx, hkx, hmm, hkm, g1, g2, g3, ⟨hgpxc12_0, hgpxc12_1, hgpxc12_2, hgpxc12_3, hgpxc12_4, hgpxc12_5, hgpxc12_6, r7, r8, r9⟩, hJ⟩ TH hS
set_option maxHeartbeats 4000000 in
set_option maxRecDepth 100000 in
theorem lop_9 {p : Program} {l : Launch} {e : Env} {s : State} {m : MethodId} {below : List Frame} {meth : Method} {c : Code} {D : va_G} {cs : Nat → ClassId} {A : Nat → Prop} {b Len : Nat} {xs : Nat → Int32} (hx : p.tables.exec = Jvm.exec) (hb : c.code = cL_law) (hr : meth.sig.returnType = ret) (hml : c.maxLocals = 4) (hB : ∀ w ∈ cx_big, w.before #[Value.ref b] s = true) (hown : s.vm.findClass "TreeMergeLaw" = some m.cls) (hlocks : meth.locks = false) (hK : va_K D vwCl (cx_TY cs) s) (hN : tw_NZ D A s s.heap) (hA : ∀ q : Nat, s.heap.size ≤ q → A q) (hA2 : ∀ q : Nat, A q → s.heap.size ≤ q) (hbA : ¬ A b) (hbl : b < s.heap.size) (hX : va_X b Len xs s s.heap) (hLen : Len ≤ 3072) {xq mq : Nat} {kp : Nat → Nat} {L : List Nat} {E : Nat → va_E} (i : Int32) (hi0 : 0 ≤ i.toInt) {cells slots : Nat} (hc : cells + 12 ≤ 600000) (hs : slots + 360 ≤ 7302250) {H : Heap} {locs : List Loc} {ls : Array Slot} (I : lv_I kp L E xq mq) (TH : tw_H D cs kp L E A H) (hS : va_S A s.heap H locs) (hl : lv_has ls 4 [(3, .int i), (2, .ref mq), (1, .ref xq), (0, .ref b)]) (hi1 : i.toInt + 6 ≤ Len) (kk : ∀ (kp1 : Nat → Nat) (L1 : List Nat) (E1 : Nat → va_E) (H1 : Heap) (locs1 : List Loc) (cells1 slots1 : Nat), cells1 ≤ cells + 12 → slots1 ≤ slots + 360 → lv_I kp1 L1 E1 xq mq → tw_H D cs kp1 L1 E1 A H1 → va_S A s.heap H1 locs1 → W p l e room_1 s m #[Value.ref b] below meth c H1 locs1 cells1 slots1 (lw_Z below #[Value.ref b] s) (F0 m 1178 ls [])) : W p l e room_1 s m #[Value.ref b] below meth c H locs cells slots (lw_Z below #[Value.ref b] s) (F0 m 419 ls []) := by
  obtain ⟨hmx, hkx, hmm, hkm, g1, g2, g3, ⟨r0, r1, r2, r3, r4, r5, r6, r7, r8, r9⟩, hJ⟩ := I
  have hJ0 := hJ
  refine lv_aload_n hx hb dL_law_419 rfl (lv_at hl 2 rfl) ?_
  obtain ⟨xi1, hxi1, hxi1a, hxi1b⟩ := tw_rd TH hmm hkm (by decide) (by decide) (k := 1) rfl
  obtain ⟨xi2, hxi2, hxi2a, hxi2b⟩ := tw_rd TH hmm hkm (by decide) (by decide) (k := 14) rfl
  have TH0 := TH
  have hT0 := TH.2.2
  refine tw_Vc (o := xq) (ci := 11) (n := 0) (post := (fun v kq Lq Eq => (∃ x : Int32, v = some (.int x) ∧ 0 ≤ x.toInt ∧ x.toInt ≤ 1) ∧ kp = kq ∧ L = Lq ∧ tw_fr kp L [(0, 0)] [180] E Eq)) (As := []) (rest := []) ⟨hx, hb, hml, hown, hB⟩ (fun sz => tX11_drop l D cs xq hmx hkx sz) cg_L_55_X11_drop rfl rfl (by decide +kernel) ⟨Nat.le_of_ble_eq_true rfl, Nat.le_of_ble_eq_true rfl⟩ hK hN TH hS hA rfl hmx hkx (by decide) rfl hl.1 rfl (Nat.le_of_ble_eq_true rfl) dL_law_420 ⟨(by show _ ≤ 600000; omega), (by show _ ≤ 7302250; omega)⟩ (fun v3 kp3 L3 E3 H locs hq3 hx3 TH hS => ?_)
  obtain ⟨⟨xc4, rfl, hxc4a, hxc4b⟩, rfl, rfl, hst3⟩ := hq3
  have hmf5 : tw_fv E3 mq 1 = .int xi1 := (hst3.1 mq 1 hmm (by rw [hkm]; decide)).trans hxi1
  have hmf6 : tw_fv E3 mq 14 = .int xi2 := (hst3.1 mq 14 hmm (by rw [hkm]; decide)).trans hxi2
  have g1 : gz_ok E3 xq := gz_ok_fr TH hst3 hmx hkx (by decide) (by decide) g1
  have g2 : ss_ok E3 xq := ss_ok_fr TH hst3 hmx hkx (by decide) (by decide) g2
  have g3 : ac_ok E3 xq := ac_ok_fr TH hst3 hmx hkx (by decide) (by decide) g3
  have r0 : rd_ok E3 mq := rd_ok_fr TH hst3 hmm hkm (by decide) (by decide) r0
  have r1 : eo_ok E3 mq := eo_ok_fr TH hst3 hmm hkm (by decide) (by decide) r1
  have r2 : ht_ok E3 mq := ht_ok_fr TH hst3 hmm hkm (by decide) (by decide) r2
  have r3 : dr_ok E3 mq := dr_ok_fr TH hst3 hmm hkm (by decide) (by decide) r3
  have r4 : ln_ok E3 mq := ln_ok_fr TH hst3 hmm hkm (by decide) (by decide) r4
  have r5 : dl_ok E3 mq := dl_ok_fr TH hst3 hmm hkm (by decide) (by decide) r5
  have r6 : fw_ok E3 mq := fw_ok_fr TH hst3 hmm hkm (by decide) (by decide) r6
  have r7 : kg_ok E3 mq := kg_ok_fr TH hst3 hmm hkm (by decide) (by decide) r7
  have r8 : sd_ok E3 mq := sd_ok_fr TH hst3 hmm hkm (by decide) (by decide) r8
  have r9 : rg_ok E3 mq := rg_ok_fr TH hst3 hmm hkm (by decide) (by decide) r9
  have hJ : lj_ok E3 xq mq := lj_ok_fr TH hst3 hmx hkx hmm hkm (by decide) (by decide) hJ
  refine W.eq (g2 := F0 m 423 ls [.int xc4]) rfl ?_
  refine lv_pop hx hb dL_law_423 rfl ?_
  refine lv_aload_n hx hb dL_law_424 rfl (lv_at hl 1 rfl) ?_
  have TH1 := TH
  have hT1 := TH.2.2
  refine tw_Vc (o := mq) (ci := 12) (n := 0) (post := (fun v kq Lq Eq => (∃ x : Int32, v = some (.int x) ∧ 0 ≤ x.toInt ∧ x.toInt ≤ 1 ∧ rd_ok Eq mq ∧ eo_ok Eq mq ∧ ht_ok Eq mq ∧ dr_ok Eq mq ∧ ln_ok Eq mq ∧ dl_ok Eq mq ∧ fw_ok Eq mq) ∧ kp = kq ∧ L = Lq ∧ tw_fr kp L [(12, 29)] [331, 333] E3 Eq)) (As := []) (rest := []) ⟨hx, hb, hml, hown, hB⟩ (fun sz => tX12_drop l D cs mq hmm hkm r0 r1 r2 r3 r4 r5 r6 sz) cg_L_59_X12_drop rfl rfl (by decide +kernel) ⟨Nat.le_of_ble_eq_true rfl, Nat.le_of_ble_eq_true rfl⟩ hK hN TH hS hA rfl hmm hkm (by decide) rfl hl.1 rfl (Nat.le_of_ble_eq_true rfl) dL_law_425 ⟨(by show _ ≤ 600000; omega), (by show _ ≤ 7302250; omega)⟩ (fun v7 kp7 L7 E7 H locs hq7 hx7 TH hS => ?_)
  obtain ⟨⟨xc8, rfl, hxc8a, hxc8b, hgpxc8_0, hgpxc8_1, hgpxc8_2, hgpxc8_3, hgpxc8_4, hgpxc8_5, hgpxc8_6⟩, rfl, rfl, hst7⟩ := hq7
  have hmf9 : tw_fv E7 mq 1 = .int xi1 := (hst7.1 mq 1 hmm (by rw [hkm]; decide)).trans hmf5
  have hmf10 : tw_fv E7 mq 14 = .int xi2 := (hst7.1 mq 14 hmm (by rw [hkm]; decide)).trans hmf6
  have g1 : gz_ok E7 xq := gz_ok_fr TH hst7 hmx hkx (by decide) (by decide) g1
  have g2 : ss_ok E7 xq := ss_ok_fr TH hst7 hmx hkx (by decide) (by decide) g2
  have g3 : ac_ok E7 xq := ac_ok_fr TH hst7 hmx hkx (by decide) (by decide) g3
  have r7 : kg_ok E7 mq := kg_ok_fr TH hst7 hmm hkm (by decide) (by decide) r7
  have r8 : sd_ok E7 mq := sd_ok_fr TH hst7 hmm hkm (by decide) (by decide) r8
  have r9 : rg_ok E7 mq := rg_ok_fr TH hst7 hmm hkm (by decide) (by decide) r9
  have hJ : lj_ok E7 xq mq := lj_ok_fr TH hst7 hmx hkx hmm hkm (by decide) (by decide) hJ
  refine W.eq (g2 := F0 m 428 ls [.int xc8]) rfl ?_
  refine lv_pop hx hb dL_law_428 rfl ?_
  refine lv_goto (tgt := 1178) hx hb dL_law_429 (by decide) ?_
  exact kk _ _ _ _ _ _ _ (by omega) (by omega) ⟨hmx, hkx, hmm, hkm, g1, g2, g3, ⟨hgpxc8_0, hgpxc8_1, hgpxc8_2, hgpxc8_3, hgpxc8_4, hgpxc8_5, hgpxc8_6, r7, r8, r9⟩, hJ⟩ TH hS
set_option maxHeartbeats 4000000 in
set_option maxRecDepth 100000 in
theorem lop_10 {p : Program} {l : Launch} {e : Env} {s : State} {m : MethodId} {below : List Frame} {meth : Method} {c : Code} {D : va_G} {cs : Nat → ClassId} {A : Nat → Prop} {b Len : Nat} {xs : Nat → Int32} (hx : p.tables.exec = Jvm.exec) (hb : c.code = cL_law) (hr : meth.sig.returnType = ret) (hml : c.maxLocals = 4) (hB : ∀ w ∈ cx_big, w.before #[Value.ref b] s = true) (hown : s.vm.findClass "TreeMergeLaw" = some m.cls) (hlocks : meth.locks = false) (hK : va_K D vwCl (cx_TY cs) s) (hN : tw_NZ D A s s.heap) (hA : ∀ q : Nat, s.heap.size ≤ q → A q) (hA2 : ∀ q : Nat, A q → s.heap.size ≤ q) (hbA : ¬ A b) (hbl : b < s.heap.size) (hX : va_X b Len xs s s.heap) (hLen : Len ≤ 3072) {xq mq : Nat} {kp : Nat → Nat} {L : List Nat} {E : Nat → va_E} (i : Int32) (hi0 : 0 ≤ i.toInt) {cells slots : Nat} (hc : cells + 12 ≤ 600000) (hs : slots + 360 ≤ 7302250) {H : Heap} {locs : List Loc} {ls : Array Slot} (I : lv_I kp L E xq mq) (TH : tw_H D cs kp L E A H) (hS : va_S A s.heap H locs) (hl : lv_has ls 4 [(3, .int i), (2, .ref mq), (1, .ref xq), (0, .ref b)]) (hi1 : i.toInt + 6 ≤ Len) (kk : ∀ (kp1 : Nat → Nat) (L1 : List Nat) (E1 : Nat → va_E) (H1 : Heap) (locs1 : List Loc) (cells1 slots1 : Nat), cells1 ≤ cells + 12 → slots1 ≤ slots + 360 → lv_I kp1 L1 E1 xq mq → tw_H D cs kp1 L1 E1 A H1 → va_S A s.heap H1 locs1 → W p l e room_1 s m #[Value.ref b] below meth c H1 locs1 cells1 slots1 (lw_Z below #[Value.ref b] s) (F0 m 1178 ls [])) : W p l e room_1 s m #[Value.ref b] below meth c H locs cells slots (lw_Z below #[Value.ref b] s) (F0 m 432 ls []) := by
  obtain ⟨hmx, hkx, hmm, hkm, g1, g2, g3, ⟨r0, r1, r2, r3, r4, r5, r6, r7, r8, r9⟩, hJ⟩ := I
  have hJ0 := hJ
  refine lv_aload_n hx hb dL_law_432 rfl (lv_at hl 2 rfl) ?_
  refine lv_aload_n hx hb dL_law_433 rfl (lv_at hl 3 rfl) ?_
  refine lv_iload_n hx hb dL_law_434 rfl (lv_at hl 0 rfl) ?_
  refine lv_iconst (v := 1) hx hb dL_law_435 (by decide) ?_
  refine lv_iadd hx hb dL_law_436 ?_
  refine lv_topi (fun zi1 ezi1 => ?_)
  have hzi1 : zi1.toInt = i.toInt + 1 := by rw [ezi1]; have : ((1 : Int32).toInt) = 1 := (by decide); have := ia_lo i; have := ia_hi i; exact (ia_add (by omega) (by omega)).trans (by omega)
  have h_436 := trivial
  refine va_sld hx hb hX hbl hbA hS (i := zi1) (vp_in_iff.mpr ⟨by omega, by omega⟩) dL_law_437 ?_
  obtain ⟨xs2, exs2⟩ : ∃ z : Int32, xs (Int32.toNatClampNeg zi1) = z := ⟨_, rfl⟩
  rw [exs2]
  refine lv_aload_n hx hb dL_law_438 rfl (lv_at hl 3 rfl) ?_
  refine lv_iload_n hx hb dL_law_439 rfl (lv_at hl 0 rfl) ?_
  refine lv_iconst (v := 2) hx hb dL_law_440 (by decide) ?_
  refine lv_iadd hx hb dL_law_441 ?_
  refine lv_topi (fun zi3 ezi3 => ?_)
  have hzi3 : zi3.toInt = i.toInt + 2 := by rw [ezi3]; have : ((2 : Int32).toInt) = 2 := (by decide); have := ia_lo i; have := ia_hi i; exact (ia_add (by omega) (by omega)).trans (by omega)
  have h_441 := trivial
  refine va_sld hx hb hX hbl hbA hS (i := zi3) (vp_in_iff.mpr ⟨by omega, by omega⟩) dL_law_442 ?_
  obtain ⟨xs4, exs4⟩ : ∃ z : Int32, xs (Int32.toNatClampNeg zi3) = z := ⟨_, rfl⟩
  rw [exs4]
  refine lv_aload_n hx hb dL_law_443 rfl (lv_at hl 3 rfl) ?_
  refine lv_iload_n hx hb dL_law_444 rfl (lv_at hl 0 rfl) ?_
  refine lv_iconst (v := 3) hx hb dL_law_445 (by decide) ?_
  refine lv_iadd hx hb dL_law_446 ?_
  refine lv_topi (fun zi5 ezi5 => ?_)
  have hzi5 : zi5.toInt = i.toInt + 3 := by rw [ezi5]; have : ((3 : Int32).toInt) = 3 := (by decide); have := ia_lo i; have := ia_hi i; exact (ia_add (by omega) (by omega)).trans (by omega)
  have h_446 := trivial
  refine va_sld hx hb hX hbl hbA hS (i := zi5) (vp_in_iff.mpr ⟨by omega, by omega⟩) dL_law_447 ?_
  obtain ⟨xs6, exs6⟩ : ∃ z : Int32, xs (Int32.toNatClampNeg zi5) = z := ⟨_, rfl⟩
  rw [exs6]
  refine lv_aload_n hx hb dL_law_448 rfl (lv_at hl 3 rfl) ?_
  refine lv_iload_n hx hb dL_law_449 rfl (lv_at hl 0 rfl) ?_
  refine lv_iconst (v := 4) hx hb dL_law_450 (by decide) ?_
  refine lv_iadd hx hb dL_law_451 ?_
  refine lv_topi (fun zi7 ezi7 => ?_)
  have hzi7 : zi7.toInt = i.toInt + 4 := by rw [ezi7]; have : ((4 : Int32).toInt) = 4 := (by decide); have := ia_lo i; have := ia_hi i; exact (ia_add (by omega) (by omega)).trans (by omega)
  have h_451 := trivial
  refine va_sld hx hb hX hbl hbA hS (i := zi7) (vp_in_iff.mpr ⟨by omega, by omega⟩) dL_law_452 ?_
  obtain ⟨xs8, exs8⟩ : ∃ z : Int32, xs (Int32.toNatClampNeg zi7) = z := ⟨_, rfl⟩
  rw [exs8]
  refine lv_i2l (v := (xs8).toInt64) hx hb dL_law_453 rfl ?_
  refine tw_topl (fun zl9 ezl9 => ?_)
  refine lv_bipush (v := 32) hx hb dL_law_454 (by decide) ?_
  refine lv_lshl (v := ((zl9) <<< (((32 : Int32)).toInt64 &&& 63))) hx hb dL_law_456 rfl ?_
  refine tw_topl (fun zl10 ezl10 => ?_)
  refine lv_aload_n hx hb dL_law_457 rfl (lv_at hl 3 rfl) ?_
  refine lv_iload_n hx hb dL_law_458 rfl (lv_at hl 0 rfl) ?_
  refine lv_iconst (v := 5) hx hb dL_law_459 (by decide) ?_
  refine lv_iadd hx hb dL_law_460 ?_
  refine lv_topi (fun zi11 ezi11 => ?_)
  have hzi11 : zi11.toInt = i.toInt + 5 := by rw [ezi11]; have : ((5 : Int32).toInt) = 5 := (by decide); have := ia_lo i; have := ia_hi i; exact (ia_add (by omega) (by omega)).trans (by omega)
  have h_460 := trivial
  refine va_sld hx hb hX hbl hbA hS (i := zi11) (vp_in_iff.mpr ⟨by omega, by omega⟩) dL_law_461 ?_
  obtain ⟨xs12, exs12⟩ : ∃ z : Int32, xs (Int32.toNatClampNeg zi11) = z := ⟨_, rfl⟩
  rw [exs12]
  refine lv_i2l (v := (xs12).toInt64) hx hb dL_law_462 rfl ?_
  refine tw_topl (fun zl13 ezl13 => ?_)
  refine lv_ldc2 hx hb hown (hB _ cw_1920) dL_law_463 ?_
  refine lv_land hx hb dL_law_466 ?_
  refine tw_topl (fun zl14 ezl14 => ?_)
  refine lv_lor hx hb dL_law_467 ?_
  refine tw_topl (fun zl15 ezl15 => ?_)
  obtain ⟨xi16, hxi16, hxi16a, hxi16b⟩ := tw_rd TH hmm hkm (by decide) (by decide) (k := 1) rfl
  obtain ⟨xi17, hxi17, hxi17a, hxi17b⟩ := tw_rd TH hmm hkm (by decide) (by decide) (k := 14) rfl
  have TH0 := TH
  have hT0 := TH.2.2
  refine tw_Vc (o := xq) (ci := 11) (n := 4) (post := (fun v kq Lq Eq => (∃ x : Int32, v = some (.int x)) ∧ kp = kq ∧ L = Lq ∧ tw_fr kp L [(10, 0), (11, 15)] [102, 110, 111, 112, 113, 114, 115, 180] E Eq)) (As := [.int xs2, .int xs4, .int xs6, .long zl15]) (rest := []) ⟨hx, hb, hml, hown, hB⟩ (fun sz => tX11_put l D cs xq xs2 xs4 xs6 zl15 hmx hkx sz) cg_L_62_X11_put rfl rfl (by decide +kernel) ⟨Nat.le_of_ble_eq_true rfl, Nat.le_of_ble_eq_true rfl⟩ hK hN TH hS hA rfl hmx hkx (by decide) rfl hl.1 rfl (Nat.le_of_ble_eq_true rfl) dL_law_468 ⟨(by show _ ≤ 600000; omega), (by show _ ≤ 7302250; omega)⟩ (fun v18 kp18 L18 E18 H locs hq18 hx18 TH hS => ?_)
  obtain ⟨⟨xc19, rfl⟩, rfl, rfl, hst18⟩ := hq18
  have hmf20 : tw_fv E18 mq 1 = .int xi16 := (hst18.1 mq 1 hmm (by rw [hkm]; decide)).trans hxi16
  have hmf21 : tw_fv E18 mq 14 = .int xi17 := (hst18.1 mq 14 hmm (by rw [hkm]; decide)).trans hxi17
  have g1 : gz_ok E18 xq := gz_ok_fr TH hst18 hmx hkx (by decide) (by decide) g1
  have g2 : ss_ok E18 xq := ss_ok_fr TH hst18 hmx hkx (by decide) (by decide) g2
  have g3 : ac_ok E18 xq := ac_ok_fr TH hst18 hmx hkx (by decide) (by decide) g3
  have r0 : rd_ok E18 mq := rd_ok_fr TH hst18 hmm hkm (by decide) (by decide) r0
  have r1 : eo_ok E18 mq := eo_ok_fr TH hst18 hmm hkm (by decide) (by decide) r1
  have r2 : ht_ok E18 mq := ht_ok_fr TH hst18 hmm hkm (by decide) (by decide) r2
  have r3 : dr_ok E18 mq := dr_ok_fr TH hst18 hmm hkm (by decide) (by decide) r3
  have r4 : ln_ok E18 mq := ln_ok_fr TH hst18 hmm hkm (by decide) (by decide) r4
  have r5 : dl_ok E18 mq := dl_ok_fr TH hst18 hmm hkm (by decide) (by decide) r5
  have r6 : fw_ok E18 mq := fw_ok_fr TH hst18 hmm hkm (by decide) (by decide) r6
  have r7 : kg_ok E18 mq := kg_ok_fr TH hst18 hmm hkm (by decide) (by decide) r7
  have r8 : sd_ok E18 mq := sd_ok_fr TH hst18 hmm hkm (by decide) (by decide) r8
  have r9 : rg_ok E18 mq := rg_ok_fr TH hst18 hmm hkm (by decide) (by decide) r9
  have hJ : lj_ok E18 xq mq := lj_ok_fr TH hst18 hmx hkx hmm hkm (by decide) (by decide) hJ
  refine W.eq (g2 := F0 m 471 ls [.int xc19]) rfl ?_
  refine lv_pop hx hb dL_law_471 rfl ?_
  refine lv_aload_n hx hb dL_law_472 rfl (lv_at hl 1 rfl) ?_
  refine lv_aload_n hx hb dL_law_473 rfl (lv_at hl 3 rfl) ?_
  refine lv_iload_n hx hb dL_law_474 rfl (lv_at hl 0 rfl) ?_
  refine lv_iconst (v := 1) hx hb dL_law_475 (by decide) ?_
  refine lv_iadd hx hb dL_law_476 ?_
  refine lv_topi (fun zi22 ezi22 => ?_)
  have hzi22 : zi22.toInt = i.toInt + 1 := by rw [ezi22]; have : ((1 : Int32).toInt) = 1 := (by decide); have := ia_lo i; have := ia_hi i; exact (ia_add (by omega) (by omega)).trans (by omega)
  have h_476 := trivial
  refine va_sld hx hb hX hbl hbA hS (i := zi22) (vp_in_iff.mpr ⟨by omega, by omega⟩) dL_law_477 ?_
  obtain ⟨xs23, exs23⟩ : ∃ z : Int32, xs (Int32.toNatClampNeg zi22) = z := ⟨_, rfl⟩
  rw [exs23]
  have qxs23 : xs2 = xs23 := by rw [← exs23, ← exs2, ia_ext (a := zi22) (b := zi1) (by omega)]
  subst qxs23
  refine lv_aload_n hx hb dL_law_478 rfl (lv_at hl 3 rfl) ?_
  refine lv_iload_n hx hb dL_law_479 rfl (lv_at hl 0 rfl) ?_
  refine lv_iconst (v := 2) hx hb dL_law_480 (by decide) ?_
  refine lv_iadd hx hb dL_law_481 ?_
  refine lv_topi (fun zi24 ezi24 => ?_)
  have hzi24 : zi24.toInt = i.toInt + 2 := by rw [ezi24]; have : ((2 : Int32).toInt) = 2 := (by decide); have := ia_lo i; have := ia_hi i; exact (ia_add (by omega) (by omega)).trans (by omega)
  have h_481 := trivial
  refine va_sld hx hb hX hbl hbA hS (i := zi24) (vp_in_iff.mpr ⟨by omega, by omega⟩) dL_law_482 ?_
  obtain ⟨xs25, exs25⟩ : ∃ z : Int32, xs (Int32.toNatClampNeg zi24) = z := ⟨_, rfl⟩
  rw [exs25]
  have qxs25 : xs4 = xs25 := by rw [← exs25, ← exs4, ia_ext (a := zi24) (b := zi3) (by omega)]
  subst qxs25
  refine lv_aload_n hx hb dL_law_483 rfl (lv_at hl 3 rfl) ?_
  refine lv_iload_n hx hb dL_law_484 rfl (lv_at hl 0 rfl) ?_
  refine lv_iconst (v := 3) hx hb dL_law_485 (by decide) ?_
  refine lv_iadd hx hb dL_law_486 ?_
  refine lv_topi (fun zi26 ezi26 => ?_)
  have hzi26 : zi26.toInt = i.toInt + 3 := by rw [ezi26]; have : ((3 : Int32).toInt) = 3 := (by decide); have := ia_lo i; have := ia_hi i; exact (ia_add (by omega) (by omega)).trans (by omega)
  have h_486 := trivial
  refine va_sld hx hb hX hbl hbA hS (i := zi26) (vp_in_iff.mpr ⟨by omega, by omega⟩) dL_law_487 ?_
  obtain ⟨xs27, exs27⟩ : ∃ z : Int32, xs (Int32.toNatClampNeg zi26) = z := ⟨_, rfl⟩
  rw [exs27]
  have qxs27 : xs6 = xs27 := by rw [← exs27, ← exs6, ia_ext (a := zi26) (b := zi5) (by omega)]
  subst qxs27
  refine lv_aload_n hx hb dL_law_488 rfl (lv_at hl 3 rfl) ?_
  refine lv_iload_n hx hb dL_law_489 rfl (lv_at hl 0 rfl) ?_
  refine lv_iconst (v := 4) hx hb dL_law_490 (by decide) ?_
  refine lv_iadd hx hb dL_law_491 ?_
  refine lv_topi (fun zi28 ezi28 => ?_)
  have hzi28 : zi28.toInt = i.toInt + 4 := by rw [ezi28]; have : ((4 : Int32).toInt) = 4 := (by decide); have := ia_lo i; have := ia_hi i; exact (ia_add (by omega) (by omega)).trans (by omega)
  have h_491 := trivial
  refine va_sld hx hb hX hbl hbA hS (i := zi28) (vp_in_iff.mpr ⟨by omega, by omega⟩) dL_law_492 ?_
  obtain ⟨xs29, exs29⟩ : ∃ z : Int32, xs (Int32.toNatClampNeg zi28) = z := ⟨_, rfl⟩
  rw [exs29]
  have qxs29 : xs8 = xs29 := by rw [← exs29, ← exs8, ia_ext (a := zi28) (b := zi7) (by omega)]
  subst qxs29
  refine lv_i2l (v := (xs8).toInt64) hx hb dL_law_493 rfl ?_
  refine tw_topl (fun zl30 ezl30 => ?_)
  refine lv_bipush (v := 32) hx hb dL_law_494 (by decide) ?_
  refine lv_lshl (v := ((zl30) <<< (((32 : Int32)).toInt64 &&& 63))) hx hb dL_law_496 rfl ?_
  refine tw_topl (fun zl31 ezl31 => ?_)
  refine lv_aload_n hx hb dL_law_497 rfl (lv_at hl 3 rfl) ?_
  refine lv_iload_n hx hb dL_law_498 rfl (lv_at hl 0 rfl) ?_
  refine lv_iconst (v := 5) hx hb dL_law_499 (by decide) ?_
  refine lv_iadd hx hb dL_law_500 ?_
  refine lv_topi (fun zi32 ezi32 => ?_)
  have hzi32 : zi32.toInt = i.toInt + 5 := by rw [ezi32]; have : ((5 : Int32).toInt) = 5 := (by decide); have := ia_lo i; have := ia_hi i; exact (ia_add (by omega) (by omega)).trans (by omega)
  have h_500 := trivial
  refine va_sld hx hb hX hbl hbA hS (i := zi32) (vp_in_iff.mpr ⟨by omega, by omega⟩) dL_law_501 ?_
  obtain ⟨xs33, exs33⟩ : ∃ z : Int32, xs (Int32.toNatClampNeg zi32) = z := ⟨_, rfl⟩
  rw [exs33]
  have qxs33 : xs12 = xs33 := by rw [← exs33, ← exs12, ia_ext (a := zi32) (b := zi11) (by omega)]
  subst qxs33
  refine lv_i2l (v := (xs12).toInt64) hx hb dL_law_502 rfl ?_
  refine tw_topl (fun zl34 ezl34 => ?_)
  refine lv_ldc2 hx hb hown (hB _ cw_1920) dL_law_503 ?_
  refine lv_land hx hb dL_law_506 ?_
  refine tw_topl (fun zl35 ezl35 => ?_)
  refine lv_lor hx hb dL_law_507 ?_
  refine tw_topl (fun zl36 ezl36 => ?_)
  have TH1 := TH
  have hT1 := TH.2.2
  refine tw_Vc (o := mq) (ci := 12) (n := 4) (post := (fun v kq Lq Eq => (∃ x : Int32, v = some (.int x) ∧ rd_ok Eq mq ∧ eo_ok Eq mq ∧ ht_ok Eq mq ∧ dr_ok Eq mq ∧ ln_ok Eq mq ∧ dl_ok Eq mq ∧ fw_ok Eq mq) ∧ kp = kq ∧ L = Lq ∧ tw_fr kp L [(12, 26)] [326, 327, 328, 329, 330, 331, 333] E18 Eq)) (As := [.int xs2, .int xs4, .int xs6, .long zl36]) (rest := []) ⟨hx, hb, hml, hown, hB⟩ (fun sz => tX12_put l D cs mq xs2 xs4 xs6 zl36 hmm hkm r0 r1 r2 r3 r4 r5 r6 sz) cg_L_66_X12_put rfl rfl (by decide +kernel) ⟨Nat.le_of_ble_eq_true rfl, Nat.le_of_ble_eq_true rfl⟩ hK hN TH hS hA rfl hmm hkm (by decide) rfl hl.1 rfl (Nat.le_of_ble_eq_true rfl) dL_law_508 ⟨(by show _ ≤ 600000; omega), (by show _ ≤ 7302250; omega)⟩ (fun v37 kp37 L37 E37 H locs hq37 hx37 TH hS => ?_)
  obtain ⟨⟨xc38, rfl, hgpxc38_0, hgpxc38_1, hgpxc38_2, hgpxc38_3, hgpxc38_4, hgpxc38_5, hgpxc38_6⟩, rfl, rfl, hst37⟩ := hq37
  have hmf39 : tw_fv E37 mq 1 = .int xi16 := (hst37.1 mq 1 hmm (by rw [hkm]; decide)).trans hmf20
  have hmf40 : tw_fv E37 mq 14 = .int xi17 := (hst37.1 mq 14 hmm (by rw [hkm]; decide)).trans hmf21
  have g1 : gz_ok E37 xq := gz_ok_fr TH hst37 hmx hkx (by decide) (by decide) g1
  have g2 : ss_ok E37 xq := ss_ok_fr TH hst37 hmx hkx (by decide) (by decide) g2
  have g3 : ac_ok E37 xq := ac_ok_fr TH hst37 hmx hkx (by decide) (by decide) g3
  have r7 : kg_ok E37 mq := kg_ok_fr TH hst37 hmm hkm (by decide) (by decide) r7
  have r8 : sd_ok E37 mq := sd_ok_fr TH hst37 hmm hkm (by decide) (by decide) r8
  have r9 : rg_ok E37 mq := rg_ok_fr TH hst37 hmm hkm (by decide) (by decide) r9
  have hJ : lj_ok E37 xq mq := lj_ok_fr TH hst37 hmx hkx hmm hkm (by decide) (by decide) hJ
  refine W.eq (g2 := F0 m 511 ls [.int xc38]) rfl ?_
  refine lv_pop hx hb dL_law_511 rfl ?_
  refine lv_goto (tgt := 1178) hx hb dL_law_512 (by decide) ?_
  exact kk _ _ _ _ _ _ _ (by omega) (by omega) ⟨hmx, hkx, hmm, hkm, g1, g2, g3, ⟨hgpxc38_0, hgpxc38_1, hgpxc38_2, hgpxc38_3, hgpxc38_4, hgpxc38_5, hgpxc38_6, r7, r8, r9⟩, hJ⟩ TH hS
set_option maxHeartbeats 4000000 in
set_option maxRecDepth 100000 in
theorem lop_11 {p : Program} {l : Launch} {e : Env} {s : State} {m : MethodId} {below : List Frame} {meth : Method} {c : Code} {D : va_G} {cs : Nat → ClassId} {A : Nat → Prop} {b Len : Nat} {xs : Nat → Int32} (hx : p.tables.exec = Jvm.exec) (hb : c.code = cL_law) (hr : meth.sig.returnType = ret) (hml : c.maxLocals = 4) (hB : ∀ w ∈ cx_big, w.before #[Value.ref b] s = true) (hown : s.vm.findClass "TreeMergeLaw" = some m.cls) (hlocks : meth.locks = false) (hK : va_K D vwCl (cx_TY cs) s) (hN : tw_NZ D A s s.heap) (hA : ∀ q : Nat, s.heap.size ≤ q → A q) (hA2 : ∀ q : Nat, A q → s.heap.size ≤ q) (hbA : ¬ A b) (hbl : b < s.heap.size) (hX : va_X b Len xs s s.heap) (hLen : Len ≤ 3072) {xq mq : Nat} {kp : Nat → Nat} {L : List Nat} {E : Nat → va_E} (i : Int32) (hi0 : 0 ≤ i.toInt) {cells slots : Nat} (hc : cells + 12 ≤ 600000) (hs : slots + 360 ≤ 7302250) {H : Heap} {locs : List Loc} {ls : Array Slot} (I : lv_I kp L E xq mq) (TH : tw_H D cs kp L E A H) (hS : va_S A s.heap H locs) (hl : lv_has ls 4 [(3, .int i), (2, .ref mq), (1, .ref xq), (0, .ref b)]) (hi1 : i.toInt + 6 ≤ Len) (kk : ∀ (kp1 : Nat → Nat) (L1 : List Nat) (E1 : Nat → va_E) (H1 : Heap) (locs1 : List Loc) (cells1 slots1 : Nat), cells1 ≤ cells + 12 → slots1 ≤ slots + 360 → lv_I kp1 L1 E1 xq mq → tw_H D cs kp1 L1 E1 A H1 → va_S A s.heap H1 locs1 → W p l e room_1 s m #[Value.ref b] below meth c H1 locs1 cells1 slots1 (lw_Z below #[Value.ref b] s) (F0 m 1178 ls [])) : W p l e room_1 s m #[Value.ref b] below meth c H locs cells slots (lw_Z below #[Value.ref b] s) (F0 m 515 ls []) := by
  obtain ⟨hmx, hkx, hmm, hkm, g1, g2, g3, ⟨r0, r1, r2, r3, r4, r5, r6, r7, r8, r9⟩, hJ⟩ := I
  have hJ0 := hJ
  refine lv_aload_n hx hb dL_law_515 rfl (lv_at hl 2 rfl) ?_
  refine lv_aload_n hx hb dL_law_516 rfl (lv_at hl 3 rfl) ?_
  refine lv_iload_n hx hb dL_law_517 rfl (lv_at hl 0 rfl) ?_
  refine lv_iconst (v := 1) hx hb dL_law_518 (by decide) ?_
  refine lv_iadd hx hb dL_law_519 ?_
  refine lv_topi (fun zi1 ezi1 => ?_)
  have hzi1 : zi1.toInt = i.toInt + 1 := by rw [ezi1]; have : ((1 : Int32).toInt) = 1 := (by decide); have := ia_lo i; have := ia_hi i; exact (ia_add (by omega) (by omega)).trans (by omega)
  have h_519 := trivial
  refine va_sld hx hb hX hbl hbA hS (i := zi1) (vp_in_iff.mpr ⟨by omega, by omega⟩) dL_law_520 ?_
  obtain ⟨xs2, exs2⟩ : ∃ z : Int32, xs (Int32.toNatClampNeg zi1) = z := ⟨_, rfl⟩
  rw [exs2]
  obtain ⟨xi3, hxi3, hxi3a, hxi3b⟩ := tw_rd TH hmm hkm (by decide) (by decide) (k := 1) rfl
  obtain ⟨xi4, hxi4, hxi4a, hxi4b⟩ := tw_rd TH hmm hkm (by decide) (by decide) (k := 14) rfl
  have TH0 := TH
  have hT0 := TH.2.2
  refine tw_Vc (o := xq) (ci := 11) (n := 1) (post := (fun v kq Lq Eq => (∃ x : Int32, v = some (.int x) ∧ 0 ≤ x.toInt ∧ x.toInt ≤ 1) ∧ kp = kq ∧ L = Lq ∧ tw_fr kp L [(10, 0)] [102, 110, 111, 112, 113, 114, 115] E Eq)) (As := [.int xs2]) (rest := []) ⟨hx, hb, hml, hown, hB⟩ (fun sz => tX11_take l D cs xq xs2 hmx hkx sz) cg_L_67_X11_take rfl rfl (by decide +kernel) ⟨Nat.le_of_ble_eq_true rfl, Nat.le_of_ble_eq_true rfl⟩ hK hN TH hS hA rfl hmx hkx (by decide) rfl hl.1 rfl (Nat.le_of_ble_eq_true rfl) dL_law_521 ⟨(by show _ ≤ 600000; omega), (by show _ ≤ 7302250; omega)⟩ (fun v5 kp5 L5 E5 H locs hq5 hx5 TH hS => ?_)
  obtain ⟨⟨xc6, rfl, hxc6a, hxc6b⟩, rfl, rfl, hst5⟩ := hq5
  have hmf7 : tw_fv E5 mq 1 = .int xi3 := (hst5.1 mq 1 hmm (by rw [hkm]; decide)).trans hxi3
  have hmf8 : tw_fv E5 mq 14 = .int xi4 := (hst5.1 mq 14 hmm (by rw [hkm]; decide)).trans hxi4
  have g1 : gz_ok E5 xq := gz_ok_fr TH hst5 hmx hkx (by decide) (by decide) g1
  have g2 : ss_ok E5 xq := ss_ok_fr TH hst5 hmx hkx (by decide) (by decide) g2
  have g3 : ac_ok E5 xq := ac_ok_fr TH hst5 hmx hkx (by decide) (by decide) g3
  have r0 : rd_ok E5 mq := rd_ok_fr TH hst5 hmm hkm (by decide) (by decide) r0
  have r1 : eo_ok E5 mq := eo_ok_fr TH hst5 hmm hkm (by decide) (by decide) r1
  have r2 : ht_ok E5 mq := ht_ok_fr TH hst5 hmm hkm (by decide) (by decide) r2
  have r3 : dr_ok E5 mq := dr_ok_fr TH hst5 hmm hkm (by decide) (by decide) r3
  have r4 : ln_ok E5 mq := ln_ok_fr TH hst5 hmm hkm (by decide) (by decide) r4
  have r5 : dl_ok E5 mq := dl_ok_fr TH hst5 hmm hkm (by decide) (by decide) r5
  have r6 : fw_ok E5 mq := fw_ok_fr TH hst5 hmm hkm (by decide) (by decide) r6
  have r7 : kg_ok E5 mq := kg_ok_fr TH hst5 hmm hkm (by decide) (by decide) r7
  have r8 : sd_ok E5 mq := sd_ok_fr TH hst5 hmm hkm (by decide) (by decide) r8
  have r9 : rg_ok E5 mq := rg_ok_fr TH hst5 hmm hkm (by decide) (by decide) r9
  have hJ : lj_ok E5 xq mq := lj_ok_fr TH hst5 hmx hkx hmm hkm (by decide) (by decide) hJ
  refine W.eq (g2 := F0 m 524 ls [.int xc6]) rfl ?_
  refine lv_pop hx hb dL_law_524 rfl ?_
  refine lv_aload_n hx hb dL_law_525 rfl (lv_at hl 1 rfl) ?_
  refine lv_aload_n hx hb dL_law_526 rfl (lv_at hl 3 rfl) ?_
  refine lv_iload_n hx hb dL_law_527 rfl (lv_at hl 0 rfl) ?_
  refine lv_iconst (v := 1) hx hb dL_law_528 (by decide) ?_
  refine lv_iadd hx hb dL_law_529 ?_
  refine lv_topi (fun zi9 ezi9 => ?_)
  have hzi9 : zi9.toInt = i.toInt + 1 := by rw [ezi9]; have : ((1 : Int32).toInt) = 1 := (by decide); have := ia_lo i; have := ia_hi i; exact (ia_add (by omega) (by omega)).trans (by omega)
  have h_529 := trivial
  refine va_sld hx hb hX hbl hbA hS (i := zi9) (vp_in_iff.mpr ⟨by omega, by omega⟩) dL_law_530 ?_
  obtain ⟨xs10, exs10⟩ : ∃ z : Int32, xs (Int32.toNatClampNeg zi9) = z := ⟨_, rfl⟩
  rw [exs10]
  have qxs10 : xs2 = xs10 := by rw [← exs10, ← exs2, ia_ext (a := zi9) (b := zi1) (by omega)]
  subst qxs10
  have TH1 := TH
  have hT1 := TH.2.2
  refine tw_Vc (o := mq) (ci := 12) (n := 1) (post := (fun v kq Lq Eq => (∃ x : Int32, v = some (.int x) ∧ 0 ≤ x.toInt ∧ x.toInt ≤ 1 ∧ rd_ok Eq mq ∧ eo_ok Eq mq ∧ ht_ok Eq mq ∧ dr_ok Eq mq ∧ ln_ok Eq mq ∧ dl_ok Eq mq ∧ fw_ok Eq mq) ∧ kp = kq ∧ L = Lq ∧ tw_fr kp L [] [326, 329] E5 Eq)) (As := [.int xs2]) (rest := []) ⟨hx, hb, hml, hown, hB⟩ (fun sz => tX12_take l D cs mq xs2 hmm hkm r0 r1 r2 r3 r4 r5 r6 sz) cg_L_70_X12_take rfl rfl (by decide +kernel) ⟨Nat.le_of_ble_eq_true rfl, Nat.le_of_ble_eq_true rfl⟩ hK hN TH hS hA rfl hmm hkm (by decide) rfl hl.1 rfl (Nat.le_of_ble_eq_true rfl) dL_law_531 ⟨(by show _ ≤ 600000; omega), (by show _ ≤ 7302250; omega)⟩ (fun v11 kp11 L11 E11 H locs hq11 hx11 TH hS => ?_)
  obtain ⟨⟨xc12, rfl, hxc12a, hxc12b, hgpxc12_0, hgpxc12_1, hgpxc12_2, hgpxc12_3, hgpxc12_4, hgpxc12_5, hgpxc12_6⟩, rfl, rfl, hst11⟩ := hq11
  have hmf13 : tw_fv E11 mq 1 = .int xi3 := (hst11.1 mq 1 hmm (by rw [hkm]; decide)).trans hmf7
  have hmf14 : tw_fv E11 mq 14 = .int xi4 := (hst11.1 mq 14 hmm (by rw [hkm]; decide)).trans hmf8
  have g1 : gz_ok E11 xq := gz_ok_fr TH hst11 hmx hkx (by decide) (by decide) g1
  have g2 : ss_ok E11 xq := ss_ok_fr TH hst11 hmx hkx (by decide) (by decide) g2
  have g3 : ac_ok E11 xq := ac_ok_fr TH hst11 hmx hkx (by decide) (by decide) g3
  have r7 : kg_ok E11 mq := kg_ok_fr TH hst11 hmm hkm (by decide) (by decide) r7
  have r8 : sd_ok E11 mq := sd_ok_fr TH hst11 hmm hkm (by decide) (by decide) r8
  have r9 : rg_ok E11 mq := rg_ok_fr TH hst11 hmm hkm (by decide) (by decide) r9
  have hJ : lj_ok E11 xq mq := lj_ok_fr TH hst11 hmx hkx hmm hkm (by decide) (by decide) hJ
  refine W.eq (g2 := F0 m 534 ls [.int xc12]) rfl ?_
  refine lv_pop hx hb dL_law_534 rfl ?_
  refine lv_goto (tgt := 1178) hx hb dL_law_535 (by decide) ?_
  exact kk _ _ _ _ _ _ _ (by omega) (by omega) ⟨hmx, hkx, hmm, hkm, g1, g2, g3, ⟨hgpxc12_0, hgpxc12_1, hgpxc12_2, hgpxc12_3, hgpxc12_4, hgpxc12_5, hgpxc12_6, r7, r8, r9⟩, hJ⟩ TH hS
set_option maxHeartbeats 4000000 in
set_option maxRecDepth 100000 in
theorem lop_12 {p : Program} {l : Launch} {e : Env} {s : State} {m : MethodId} {below : List Frame} {meth : Method} {c : Code} {D : va_G} {cs : Nat → ClassId} {A : Nat → Prop} {b Len : Nat} {xs : Nat → Int32} (hx : p.tables.exec = Jvm.exec) (hb : c.code = cL_law) (hr : meth.sig.returnType = ret) (hml : c.maxLocals = 4) (hB : ∀ w ∈ cx_big, w.before #[Value.ref b] s = true) (hown : s.vm.findClass "TreeMergeLaw" = some m.cls) (hlocks : meth.locks = false) (hK : va_K D vwCl (cx_TY cs) s) (hN : tw_NZ D A s s.heap) (hA : ∀ q : Nat, s.heap.size ≤ q → A q) (hA2 : ∀ q : Nat, A q → s.heap.size ≤ q) (hbA : ¬ A b) (hbl : b < s.heap.size) (hX : va_X b Len xs s s.heap) (hLen : Len ≤ 3072) {xq mq : Nat} {kp : Nat → Nat} {L : List Nat} {E : Nat → va_E} (i : Int32) (hi0 : 0 ≤ i.toInt) {cells slots : Nat} (hc : cells + 12 ≤ 600000) (hs : slots + 360 ≤ 7302250) {H : Heap} {locs : List Loc} {ls : Array Slot} (I : lv_I kp L E xq mq) (TH : tw_H D cs kp L E A H) (hS : va_S A s.heap H locs) (hl : lv_has ls 4 [(3, .int i), (2, .ref mq), (1, .ref xq), (0, .ref b)]) (hi1 : i.toInt + 6 ≤ Len) (kk : ∀ (kp1 : Nat → Nat) (L1 : List Nat) (E1 : Nat → va_E) (H1 : Heap) (locs1 : List Loc) (cells1 slots1 : Nat), cells1 ≤ cells + 12 → slots1 ≤ slots + 360 → lv_I kp1 L1 E1 xq mq → tw_H D cs kp1 L1 E1 A H1 → va_S A s.heap H1 locs1 → W p l e room_1 s m #[Value.ref b] below meth c H1 locs1 cells1 slots1 (lw_Z below #[Value.ref b] s) (F0 m 1178 ls [])) : W p l e room_1 s m #[Value.ref b] below meth c H locs cells slots (lw_Z below #[Value.ref b] s) (F0 m 538 ls []) := by
  obtain ⟨hmx, hkx, hmm, hkm, g1, g2, g3, ⟨r0, r1, r2, r3, r4, r5, r6, r7, r8, r9⟩, hJ⟩ := I
  have hJ0 := hJ
  refine lv_aload_n hx hb dL_law_538 rfl (lv_at hl 2 rfl) ?_
  refine lv_aload_n hx hb dL_law_539 rfl (lv_at hl 3 rfl) ?_
  refine lv_iload_n hx hb dL_law_540 rfl (lv_at hl 0 rfl) ?_
  refine lv_iconst (v := 1) hx hb dL_law_541 (by decide) ?_
  refine lv_iadd hx hb dL_law_542 ?_
  refine lv_topi (fun zi1 ezi1 => ?_)
  have hzi1 : zi1.toInt = i.toInt + 1 := by rw [ezi1]; have : ((1 : Int32).toInt) = 1 := (by decide); have := ia_lo i; have := ia_hi i; exact (ia_add (by omega) (by omega)).trans (by omega)
  have h_542 := trivial
  refine va_sld hx hb hX hbl hbA hS (i := zi1) (vp_in_iff.mpr ⟨by omega, by omega⟩) dL_law_543 ?_
  obtain ⟨xs2, exs2⟩ : ∃ z : Int32, xs (Int32.toNatClampNeg zi1) = z := ⟨_, rfl⟩
  rw [exs2]
  refine lv_aload_n hx hb dL_law_544 rfl (lv_at hl 3 rfl) ?_
  refine lv_iload_n hx hb dL_law_545 rfl (lv_at hl 0 rfl) ?_
  refine lv_iconst (v := 2) hx hb dL_law_546 (by decide) ?_
  refine lv_iadd hx hb dL_law_547 ?_
  refine lv_topi (fun zi3 ezi3 => ?_)
  have hzi3 : zi3.toInt = i.toInt + 2 := by rw [ezi3]; have : ((2 : Int32).toInt) = 2 := (by decide); have := ia_lo i; have := ia_hi i; exact (ia_add (by omega) (by omega)).trans (by omega)
  have h_547 := trivial
  refine va_sld hx hb hX hbl hbA hS (i := zi3) (vp_in_iff.mpr ⟨by omega, by omega⟩) dL_law_548 ?_
  obtain ⟨xs4, exs4⟩ : ∃ z : Int32, xs (Int32.toNatClampNeg zi3) = z := ⟨_, rfl⟩
  rw [exs4]
  refine lv_aload_n hx hb dL_law_549 rfl (lv_at hl 3 rfl) ?_
  refine lv_iload_n hx hb dL_law_550 rfl (lv_at hl 0 rfl) ?_
  refine lv_iconst (v := 3) hx hb dL_law_551 (by decide) ?_
  refine lv_iadd hx hb dL_law_552 ?_
  refine lv_topi (fun zi5 ezi5 => ?_)
  have hzi5 : zi5.toInt = i.toInt + 3 := by rw [ezi5]; have : ((3 : Int32).toInt) = 3 := (by decide); have := ia_lo i; have := ia_hi i; exact (ia_add (by omega) (by omega)).trans (by omega)
  have h_552 := trivial
  refine va_sld hx hb hX hbl hbA hS (i := zi5) (vp_in_iff.mpr ⟨by omega, by omega⟩) dL_law_553 ?_
  obtain ⟨xs6, exs6⟩ : ∃ z : Int32, xs (Int32.toNatClampNeg zi5) = z := ⟨_, rfl⟩
  rw [exs6]
  obtain ⟨xi7, hxi7, hxi7a, hxi7b⟩ := tw_rd TH hmm hkm (by decide) (by decide) (k := 1) rfl
  obtain ⟨xi8, hxi8, hxi8a, hxi8b⟩ := tw_rd TH hmm hkm (by decide) (by decide) (k := 14) rfl
  have TH0 := TH
  have hT0 := TH.2.2
  refine tw_Vc (o := xq) (ci := 11) (n := 3) (post := (fun v kq Lq Eq => (∃ x : Int32, v = some (.int x) ∧ 0 ≤ x.toInt ∧ x.toInt ≤ 1) ∧ kp = kq ∧ L = Lq ∧ tw_fr kp L [(10, 0)] [102, 110, 111, 112, 113, 114, 115] E Eq)) (As := [.int xs2, .int xs4, .int xs6]) (rest := []) ⟨hx, hb, hml, hown, hB⟩ (fun sz => tX11_move l D cs xq xs2 xs4 xs6 hmx hkx sz) cg_L_71_X11_move rfl rfl (by decide +kernel) ⟨Nat.le_of_ble_eq_true rfl, Nat.le_of_ble_eq_true rfl⟩ hK hN TH hS hA rfl hmx hkx (by decide) rfl hl.1 rfl (Nat.le_of_ble_eq_true rfl) dL_law_554 ⟨(by show _ ≤ 600000; omega), (by show _ ≤ 7302250; omega)⟩ (fun v9 kp9 L9 E9 H locs hq9 hx9 TH hS => ?_)
  obtain ⟨⟨xc10, rfl, hxc10a, hxc10b⟩, rfl, rfl, hst9⟩ := hq9
  have hmf11 : tw_fv E9 mq 1 = .int xi7 := (hst9.1 mq 1 hmm (by rw [hkm]; decide)).trans hxi7
  have hmf12 : tw_fv E9 mq 14 = .int xi8 := (hst9.1 mq 14 hmm (by rw [hkm]; decide)).trans hxi8
  have g1 : gz_ok E9 xq := gz_ok_fr TH hst9 hmx hkx (by decide) (by decide) g1
  have g2 : ss_ok E9 xq := ss_ok_fr TH hst9 hmx hkx (by decide) (by decide) g2
  have g3 : ac_ok E9 xq := ac_ok_fr TH hst9 hmx hkx (by decide) (by decide) g3
  have r0 : rd_ok E9 mq := rd_ok_fr TH hst9 hmm hkm (by decide) (by decide) r0
  have r1 : eo_ok E9 mq := eo_ok_fr TH hst9 hmm hkm (by decide) (by decide) r1
  have r2 : ht_ok E9 mq := ht_ok_fr TH hst9 hmm hkm (by decide) (by decide) r2
  have r3 : dr_ok E9 mq := dr_ok_fr TH hst9 hmm hkm (by decide) (by decide) r3
  have r4 : ln_ok E9 mq := ln_ok_fr TH hst9 hmm hkm (by decide) (by decide) r4
  have r5 : dl_ok E9 mq := dl_ok_fr TH hst9 hmm hkm (by decide) (by decide) r5
  have r6 : fw_ok E9 mq := fw_ok_fr TH hst9 hmm hkm (by decide) (by decide) r6
  have r7 : kg_ok E9 mq := kg_ok_fr TH hst9 hmm hkm (by decide) (by decide) r7
  have r8 : sd_ok E9 mq := sd_ok_fr TH hst9 hmm hkm (by decide) (by decide) r8
  have r9 : rg_ok E9 mq := rg_ok_fr TH hst9 hmm hkm (by decide) (by decide) r9
  have hJ : lj_ok E9 xq mq := lj_ok_fr TH hst9 hmx hkx hmm hkm (by decide) (by decide) hJ
  refine W.eq (g2 := F0 m 557 ls [.int xc10]) rfl ?_
  refine lv_pop hx hb dL_law_557 rfl ?_
  refine lv_aload_n hx hb dL_law_558 rfl (lv_at hl 1 rfl) ?_
  refine lv_aload_n hx hb dL_law_559 rfl (lv_at hl 3 rfl) ?_
  refine lv_iload_n hx hb dL_law_560 rfl (lv_at hl 0 rfl) ?_
  refine lv_iconst (v := 1) hx hb dL_law_561 (by decide) ?_
  refine lv_iadd hx hb dL_law_562 ?_
  refine lv_topi (fun zi13 ezi13 => ?_)
  have hzi13 : zi13.toInt = i.toInt + 1 := by rw [ezi13]; have : ((1 : Int32).toInt) = 1 := (by decide); have := ia_lo i; have := ia_hi i; exact (ia_add (by omega) (by omega)).trans (by omega)
  have h_562 := trivial
  refine va_sld hx hb hX hbl hbA hS (i := zi13) (vp_in_iff.mpr ⟨by omega, by omega⟩) dL_law_563 ?_
  obtain ⟨xs14, exs14⟩ : ∃ z : Int32, xs (Int32.toNatClampNeg zi13) = z := ⟨_, rfl⟩
  rw [exs14]
  have qxs14 : xs2 = xs14 := by rw [← exs14, ← exs2, ia_ext (a := zi13) (b := zi1) (by omega)]
  subst qxs14
  refine lv_aload_n hx hb dL_law_564 rfl (lv_at hl 3 rfl) ?_
  refine lv_iload_n hx hb dL_law_565 rfl (lv_at hl 0 rfl) ?_
  refine lv_iconst (v := 2) hx hb dL_law_566 (by decide) ?_
  refine lv_iadd hx hb dL_law_567 ?_
  refine lv_topi (fun zi15 ezi15 => ?_)
  have hzi15 : zi15.toInt = i.toInt + 2 := by rw [ezi15]; have : ((2 : Int32).toInt) = 2 := (by decide); have := ia_lo i; have := ia_hi i; exact (ia_add (by omega) (by omega)).trans (by omega)
  have h_567 := trivial
  refine va_sld hx hb hX hbl hbA hS (i := zi15) (vp_in_iff.mpr ⟨by omega, by omega⟩) dL_law_568 ?_
  obtain ⟨xs16, exs16⟩ : ∃ z : Int32, xs (Int32.toNatClampNeg zi15) = z := ⟨_, rfl⟩
  rw [exs16]
  have qxs16 : xs4 = xs16 := by rw [← exs16, ← exs4, ia_ext (a := zi15) (b := zi3) (by omega)]
  subst qxs16
  refine lv_aload_n hx hb dL_law_569 rfl (lv_at hl 3 rfl) ?_
  refine lv_iload_n hx hb dL_law_570 rfl (lv_at hl 0 rfl) ?_
  refine lv_iconst (v := 3) hx hb dL_law_571 (by decide) ?_
  refine lv_iadd hx hb dL_law_572 ?_
  refine lv_topi (fun zi17 ezi17 => ?_)
  have hzi17 : zi17.toInt = i.toInt + 3 := by rw [ezi17]; have : ((3 : Int32).toInt) = 3 := (by decide); have := ia_lo i; have := ia_hi i; exact (ia_add (by omega) (by omega)).trans (by omega)
  have h_572 := trivial
  refine va_sld hx hb hX hbl hbA hS (i := zi17) (vp_in_iff.mpr ⟨by omega, by omega⟩) dL_law_573 ?_
  obtain ⟨xs18, exs18⟩ : ∃ z : Int32, xs (Int32.toNatClampNeg zi17) = z := ⟨_, rfl⟩
  rw [exs18]
  have qxs18 : xs6 = xs18 := by rw [← exs18, ← exs6, ia_ext (a := zi17) (b := zi5) (by omega)]
  subst qxs18
  have TH1 := TH
  have hT1 := TH.2.2
  refine tw_Vc (o := mq) (ci := 12) (n := 3) (post := (fun v kq Lq Eq => (∃ x : Int32, v = some (.int x) ∧ 0 ≤ x.toInt ∧ x.toInt ≤ 1 ∧ rd_ok Eq mq ∧ eo_ok Eq mq ∧ ht_ok Eq mq ∧ dr_ok Eq mq ∧ ln_ok Eq mq ∧ dl_ok Eq mq ∧ fw_ok Eq mq) ∧ kp = kq ∧ L = Lq ∧ tw_fr kp L [] [326, 328, 329] E9 Eq)) (As := [.int xs2, .int xs4, .int xs6]) (rest := []) ⟨hx, hb, hml, hown, hB⟩ (fun sz => tX12_move l D cs mq xs2 xs4 xs6 hmm hkm r0 r1 r2 r3 r4 r5 r6 sz) cg_L_75_X12_move rfl rfl (by decide +kernel) ⟨Nat.le_of_ble_eq_true rfl, Nat.le_of_ble_eq_true rfl⟩ hK hN TH hS hA rfl hmm hkm (by decide) rfl hl.1 rfl (Nat.le_of_ble_eq_true rfl) dL_law_574 ⟨(by show _ ≤ 600000; omega), (by show _ ≤ 7302250; omega)⟩ (fun v19 kp19 L19 E19 H locs hq19 hx19 TH hS => ?_)
  obtain ⟨⟨xc20, rfl, hxc20a, hxc20b, hgpxc20_0, hgpxc20_1, hgpxc20_2, hgpxc20_3, hgpxc20_4, hgpxc20_5, hgpxc20_6⟩, rfl, rfl, hst19⟩ := hq19
  have hmf21 : tw_fv E19 mq 1 = .int xi7 := (hst19.1 mq 1 hmm (by rw [hkm]; decide)).trans hmf11
  have hmf22 : tw_fv E19 mq 14 = .int xi8 := (hst19.1 mq 14 hmm (by rw [hkm]; decide)).trans hmf12
  have g1 : gz_ok E19 xq := gz_ok_fr TH hst19 hmx hkx (by decide) (by decide) g1
  have g2 : ss_ok E19 xq := ss_ok_fr TH hst19 hmx hkx (by decide) (by decide) g2
  have g3 : ac_ok E19 xq := ac_ok_fr TH hst19 hmx hkx (by decide) (by decide) g3
  have r7 : kg_ok E19 mq := kg_ok_fr TH hst19 hmm hkm (by decide) (by decide) r7
  have r8 : sd_ok E19 mq := sd_ok_fr TH hst19 hmm hkm (by decide) (by decide) r8
  have r9 : rg_ok E19 mq := rg_ok_fr TH hst19 hmm hkm (by decide) (by decide) r9
  have hJ : lj_ok E19 xq mq := lj_ok_fr TH hst19 hmx hkx hmm hkm (by decide) (by decide) hJ
  refine W.eq (g2 := F0 m 577 ls [.int xc20]) rfl ?_
  refine lv_pop hx hb dL_law_577 rfl ?_
  refine lv_goto (tgt := 1178) hx hb dL_law_578 (by decide) ?_
  exact kk _ _ _ _ _ _ _ (by omega) (by omega) ⟨hmx, hkx, hmm, hkm, g1, g2, g3, ⟨hgpxc20_0, hgpxc20_1, hgpxc20_2, hgpxc20_3, hgpxc20_4, hgpxc20_5, hgpxc20_6, r7, r8, r9⟩, hJ⟩ TH hS
set_option maxHeartbeats 4000000 in
set_option maxRecDepth 100000 in
theorem lop_13 {p : Program} {l : Launch} {e : Env} {s : State} {m : MethodId} {below : List Frame} {meth : Method} {c : Code} {D : va_G} {cs : Nat → ClassId} {A : Nat → Prop} {b Len : Nat} {xs : Nat → Int32} (hx : p.tables.exec = Jvm.exec) (hb : c.code = cL_law) (hr : meth.sig.returnType = ret) (hml : c.maxLocals = 4) (hB : ∀ w ∈ cx_big, w.before #[Value.ref b] s = true) (hown : s.vm.findClass "TreeMergeLaw" = some m.cls) (hlocks : meth.locks = false) (hK : va_K D vwCl (cx_TY cs) s) (hN : tw_NZ D A s s.heap) (hA : ∀ q : Nat, s.heap.size ≤ q → A q) (hA2 : ∀ q : Nat, A q → s.heap.size ≤ q) (hbA : ¬ A b) (hbl : b < s.heap.size) (hX : va_X b Len xs s s.heap) (hLen : Len ≤ 3072) {xq mq : Nat} {kp : Nat → Nat} {L : List Nat} {E : Nat → va_E} (i : Int32) (hi0 : 0 ≤ i.toInt) {cells slots : Nat} (hc : cells + 12 ≤ 600000) (hs : slots + 360 ≤ 7302250) {H : Heap} {locs : List Loc} {ls : Array Slot} (I : lv_I kp L E xq mq) (TH : tw_H D cs kp L E A H) (hS : va_S A s.heap H locs) (hl : lv_has ls 4 [(3, .int i), (2, .ref mq), (1, .ref xq), (0, .ref b)]) (hi1 : i.toInt + 6 ≤ Len) (kk : ∀ (kp1 : Nat → Nat) (L1 : List Nat) (E1 : Nat → va_E) (H1 : Heap) (locs1 : List Loc) (cells1 slots1 : Nat), cells1 ≤ cells + 12 → slots1 ≤ slots + 360 → lv_I kp1 L1 E1 xq mq → tw_H D cs kp1 L1 E1 A H1 → va_S A s.heap H1 locs1 → W p l e room_1 s m #[Value.ref b] below meth c H1 locs1 cells1 slots1 (lw_Z below #[Value.ref b] s) (F0 m 1178 ls [])) : W p l e room_1 s m #[Value.ref b] below meth c H locs cells slots (lw_Z below #[Value.ref b] s) (F0 m 581 ls []) := by
  obtain ⟨hmx, hkx, hmm, hkm, g1, g2, g3, ⟨r0, r1, r2, r3, r4, r5, r6, r7, r8, r9⟩, hJ⟩ := I
  have hJ0 := hJ
  refine lv_aload_n hx hb dL_law_581 rfl (lv_at hl 2 rfl) ?_
  refine lv_aload_n hx hb dL_law_582 rfl (lv_at hl 3 rfl) ?_
  refine lv_iload_n hx hb dL_law_583 rfl (lv_at hl 0 rfl) ?_
  refine lv_iconst (v := 1) hx hb dL_law_584 (by decide) ?_
  refine lv_iadd hx hb dL_law_585 ?_
  refine lv_topi (fun zi1 ezi1 => ?_)
  have hzi1 : zi1.toInt = i.toInt + 1 := by rw [ezi1]; have : ((1 : Int32).toInt) = 1 := (by decide); have := ia_lo i; have := ia_hi i; exact (ia_add (by omega) (by omega)).trans (by omega)
  have h_585 := trivial
  refine va_sld hx hb hX hbl hbA hS (i := zi1) (vp_in_iff.mpr ⟨by omega, by omega⟩) dL_law_586 ?_
  obtain ⟨xs2, exs2⟩ : ∃ z : Int32, xs (Int32.toNatClampNeg zi1) = z := ⟨_, rfl⟩
  rw [exs2]
  refine lv_aload_n hx hb dL_law_587 rfl (lv_at hl 3 rfl) ?_
  refine lv_iload_n hx hb dL_law_588 rfl (lv_at hl 0 rfl) ?_
  refine lv_iconst (v := 2) hx hb dL_law_589 (by decide) ?_
  refine lv_iadd hx hb dL_law_590 ?_
  refine lv_topi (fun zi3 ezi3 => ?_)
  have hzi3 : zi3.toInt = i.toInt + 2 := by rw [ezi3]; have : ((2 : Int32).toInt) = 2 := (by decide); have := ia_lo i; have := ia_hi i; exact (ia_add (by omega) (by omega)).trans (by omega)
  have h_590 := trivial
  refine va_sld hx hb hX hbl hbA hS (i := zi3) (vp_in_iff.mpr ⟨by omega, by omega⟩) dL_law_591 ?_
  obtain ⟨xs4, exs4⟩ : ∃ z : Int32, xs (Int32.toNatClampNeg zi3) = z := ⟨_, rfl⟩
  rw [exs4]
  refine lv_i2l (v := (xs4).toInt64) hx hb dL_law_592 rfl ?_
  refine tw_topl (fun zl5 ezl5 => ?_)
  refine lv_bipush (v := 32) hx hb dL_law_593 (by decide) ?_
  refine lv_lshl (v := ((zl5) <<< (((32 : Int32)).toInt64 &&& 63))) hx hb dL_law_595 rfl ?_
  refine tw_topl (fun zl6 ezl6 => ?_)
  refine lv_aload_n hx hb dL_law_596 rfl (lv_at hl 3 rfl) ?_
  refine lv_iload_n hx hb dL_law_597 rfl (lv_at hl 0 rfl) ?_
  refine lv_iconst (v := 3) hx hb dL_law_598 (by decide) ?_
  refine lv_iadd hx hb dL_law_599 ?_
  refine lv_topi (fun zi7 ezi7 => ?_)
  have hzi7 : zi7.toInt = i.toInt + 3 := by rw [ezi7]; have : ((3 : Int32).toInt) = 3 := (by decide); have := ia_lo i; have := ia_hi i; exact (ia_add (by omega) (by omega)).trans (by omega)
  have h_599 := trivial
  refine va_sld hx hb hX hbl hbA hS (i := zi7) (vp_in_iff.mpr ⟨by omega, by omega⟩) dL_law_600 ?_
  obtain ⟨xs8, exs8⟩ : ∃ z : Int32, xs (Int32.toNatClampNeg zi7) = z := ⟨_, rfl⟩
  rw [exs8]
  refine lv_i2l (v := (xs8).toInt64) hx hb dL_law_601 rfl ?_
  refine tw_topl (fun zl9 ezl9 => ?_)
  refine lv_ldc2 hx hb hown (hB _ cw_1920) dL_law_602 ?_
  refine lv_land hx hb dL_law_605 ?_
  refine tw_topl (fun zl10 ezl10 => ?_)
  refine lv_lor hx hb dL_law_606 ?_
  refine tw_topl (fun zl11 ezl11 => ?_)
  obtain ⟨xi12, hxi12, hxi12a, hxi12b⟩ := tw_rd TH hmm hkm (by decide) (by decide) (k := 1) rfl
  obtain ⟨xi13, hxi13, hxi13a, hxi13b⟩ := tw_rd TH hmm hkm (by decide) (by decide) (k := 14) rfl
  have TH0 := TH
  have hT0 := TH.2.2
  refine tw_Vc (o := xq) (ci := 11) (n := 2) (post := (fun v kq Lq Eq => (∃ x : Int32, v = some (.int x) ∧ 0 ≤ x.toInt ∧ x.toInt ≤ 1) ∧ kp = kq ∧ L = Lq ∧ tw_fr kp L [(10, 0)] [102, 110, 111, 112, 113, 114, 115] E Eq)) (As := [.int xs2, .long zl11]) (rest := []) ⟨hx, hb, hml, hown, hB⟩ (fun sz => tX11_rename l D cs xq xs2 zl11 hmx hkx sz) cg_L_76_X11_rename rfl rfl (by decide +kernel) ⟨Nat.le_of_ble_eq_true rfl, Nat.le_of_ble_eq_true rfl⟩ hK hN TH hS hA rfl hmx hkx (by decide) rfl hl.1 rfl (Nat.le_of_ble_eq_true rfl) dL_law_607 ⟨(by show _ ≤ 600000; omega), (by show _ ≤ 7302250; omega)⟩ (fun v14 kp14 L14 E14 H locs hq14 hx14 TH hS => ?_)
  obtain ⟨⟨xc15, rfl, hxc15a, hxc15b⟩, rfl, rfl, hst14⟩ := hq14
  have hmf16 : tw_fv E14 mq 1 = .int xi12 := (hst14.1 mq 1 hmm (by rw [hkm]; decide)).trans hxi12
  have hmf17 : tw_fv E14 mq 14 = .int xi13 := (hst14.1 mq 14 hmm (by rw [hkm]; decide)).trans hxi13
  have g1 : gz_ok E14 xq := gz_ok_fr TH hst14 hmx hkx (by decide) (by decide) g1
  have g2 : ss_ok E14 xq := ss_ok_fr TH hst14 hmx hkx (by decide) (by decide) g2
  have g3 : ac_ok E14 xq := ac_ok_fr TH hst14 hmx hkx (by decide) (by decide) g3
  have r0 : rd_ok E14 mq := rd_ok_fr TH hst14 hmm hkm (by decide) (by decide) r0
  have r1 : eo_ok E14 mq := eo_ok_fr TH hst14 hmm hkm (by decide) (by decide) r1
  have r2 : ht_ok E14 mq := ht_ok_fr TH hst14 hmm hkm (by decide) (by decide) r2
  have r3 : dr_ok E14 mq := dr_ok_fr TH hst14 hmm hkm (by decide) (by decide) r3
  have r4 : ln_ok E14 mq := ln_ok_fr TH hst14 hmm hkm (by decide) (by decide) r4
  have r5 : dl_ok E14 mq := dl_ok_fr TH hst14 hmm hkm (by decide) (by decide) r5
  have r6 : fw_ok E14 mq := fw_ok_fr TH hst14 hmm hkm (by decide) (by decide) r6
  have r7 : kg_ok E14 mq := kg_ok_fr TH hst14 hmm hkm (by decide) (by decide) r7
  have r8 : sd_ok E14 mq := sd_ok_fr TH hst14 hmm hkm (by decide) (by decide) r8
  have r9 : rg_ok E14 mq := rg_ok_fr TH hst14 hmm hkm (by decide) (by decide) r9
  have hJ : lj_ok E14 xq mq := lj_ok_fr TH hst14 hmx hkx hmm hkm (by decide) (by decide) hJ
  refine W.eq (g2 := F0 m 610 ls [.int xc15]) rfl ?_
  refine lv_pop hx hb dL_law_610 rfl ?_
  refine lv_aload_n hx hb dL_law_611 rfl (lv_at hl 1 rfl) ?_
  refine lv_aload_n hx hb dL_law_612 rfl (lv_at hl 3 rfl) ?_
  refine lv_iload_n hx hb dL_law_613 rfl (lv_at hl 0 rfl) ?_
  refine lv_iconst (v := 1) hx hb dL_law_614 (by decide) ?_
  refine lv_iadd hx hb dL_law_615 ?_
  refine lv_topi (fun zi18 ezi18 => ?_)
  have hzi18 : zi18.toInt = i.toInt + 1 := by rw [ezi18]; have : ((1 : Int32).toInt) = 1 := (by decide); have := ia_lo i; have := ia_hi i; exact (ia_add (by omega) (by omega)).trans (by omega)
  have h_615 := trivial
  refine va_sld hx hb hX hbl hbA hS (i := zi18) (vp_in_iff.mpr ⟨by omega, by omega⟩) dL_law_616 ?_
  obtain ⟨xs19, exs19⟩ : ∃ z : Int32, xs (Int32.toNatClampNeg zi18) = z := ⟨_, rfl⟩
  rw [exs19]
  have qxs19 : xs2 = xs19 := by rw [← exs19, ← exs2, ia_ext (a := zi18) (b := zi1) (by omega)]
  subst qxs19
  refine lv_aload_n hx hb dL_law_617 rfl (lv_at hl 3 rfl) ?_
  refine lv_iload_n hx hb dL_law_618 rfl (lv_at hl 0 rfl) ?_
  refine lv_iconst (v := 2) hx hb dL_law_619 (by decide) ?_
  refine lv_iadd hx hb dL_law_620 ?_
  refine lv_topi (fun zi20 ezi20 => ?_)
  have hzi20 : zi20.toInt = i.toInt + 2 := by rw [ezi20]; have : ((2 : Int32).toInt) = 2 := (by decide); have := ia_lo i; have := ia_hi i; exact (ia_add (by omega) (by omega)).trans (by omega)
  have h_620 := trivial
  refine va_sld hx hb hX hbl hbA hS (i := zi20) (vp_in_iff.mpr ⟨by omega, by omega⟩) dL_law_621 ?_
  obtain ⟨xs21, exs21⟩ : ∃ z : Int32, xs (Int32.toNatClampNeg zi20) = z := ⟨_, rfl⟩
  rw [exs21]
  have qxs21 : xs4 = xs21 := by rw [← exs21, ← exs4, ia_ext (a := zi20) (b := zi3) (by omega)]
  subst qxs21
  refine lv_i2l (v := (xs4).toInt64) hx hb dL_law_622 rfl ?_
  refine tw_topl (fun zl22 ezl22 => ?_)
  refine lv_bipush (v := 32) hx hb dL_law_623 (by decide) ?_
  refine lv_lshl (v := ((zl22) <<< (((32 : Int32)).toInt64 &&& 63))) hx hb dL_law_625 rfl ?_
  refine tw_topl (fun zl23 ezl23 => ?_)
  refine lv_aload_n hx hb dL_law_626 rfl (lv_at hl 3 rfl) ?_
  refine lv_iload_n hx hb dL_law_627 rfl (lv_at hl 0 rfl) ?_
  refine lv_iconst (v := 3) hx hb dL_law_628 (by decide) ?_
  refine lv_iadd hx hb dL_law_629 ?_
  refine lv_topi (fun zi24 ezi24 => ?_)
  have hzi24 : zi24.toInt = i.toInt + 3 := by rw [ezi24]; have : ((3 : Int32).toInt) = 3 := (by decide); have := ia_lo i; have := ia_hi i; exact (ia_add (by omega) (by omega)).trans (by omega)
  have h_629 := trivial
  refine va_sld hx hb hX hbl hbA hS (i := zi24) (vp_in_iff.mpr ⟨by omega, by omega⟩) dL_law_630 ?_
  obtain ⟨xs25, exs25⟩ : ∃ z : Int32, xs (Int32.toNatClampNeg zi24) = z := ⟨_, rfl⟩
  rw [exs25]
  have qxs25 : xs8 = xs25 := by rw [← exs25, ← exs8, ia_ext (a := zi24) (b := zi7) (by omega)]
  subst qxs25
  refine lv_i2l (v := (xs8).toInt64) hx hb dL_law_631 rfl ?_
  refine tw_topl (fun zl26 ezl26 => ?_)
  refine lv_ldc2 hx hb hown (hB _ cw_1920) dL_law_632 ?_
  refine lv_land hx hb dL_law_635 ?_
  refine tw_topl (fun zl27 ezl27 => ?_)
  refine lv_lor hx hb dL_law_636 ?_
  refine tw_topl (fun zl28 ezl28 => ?_)
  have TH1 := TH
  have hT1 := TH.2.2
  refine tw_Vc (o := mq) (ci := 12) (n := 2) (post := (fun v kq Lq Eq => (∃ x : Int32, v = some (.int x) ∧ 0 ≤ x.toInt ∧ x.toInt ≤ 1 ∧ rd_ok Eq mq ∧ eo_ok Eq mq ∧ ht_ok Eq mq ∧ dr_ok Eq mq ∧ ln_ok Eq mq ∧ dl_ok Eq mq ∧ fw_ok Eq mq) ∧ kp = kq ∧ L = Lq ∧ tw_fr kp L [] [327, 329] E14 Eq)) (As := [.int xs2, .long zl28]) (rest := []) ⟨hx, hb, hml, hown, hB⟩ (fun sz => tX12_rename l D cs mq xs2 zl28 hmm hkm r0 r1 r2 r3 r4 r5 r6 sz) cg_L_80_X12_rename rfl rfl (by decide +kernel) ⟨Nat.le_of_ble_eq_true rfl, Nat.le_of_ble_eq_true rfl⟩ hK hN TH hS hA rfl hmm hkm (by decide) rfl hl.1 rfl (Nat.le_of_ble_eq_true rfl) dL_law_637 ⟨(by show _ ≤ 600000; omega), (by show _ ≤ 7302250; omega)⟩ (fun v29 kp29 L29 E29 H locs hq29 hx29 TH hS => ?_)
  obtain ⟨⟨xc30, rfl, hxc30a, hxc30b, hgpxc30_0, hgpxc30_1, hgpxc30_2, hgpxc30_3, hgpxc30_4, hgpxc30_5, hgpxc30_6⟩, rfl, rfl, hst29⟩ := hq29
  have hmf31 : tw_fv E29 mq 1 = .int xi12 := (hst29.1 mq 1 hmm (by rw [hkm]; decide)).trans hmf16
  have hmf32 : tw_fv E29 mq 14 = .int xi13 := (hst29.1 mq 14 hmm (by rw [hkm]; decide)).trans hmf17
  have g1 : gz_ok E29 xq := gz_ok_fr TH hst29 hmx hkx (by decide) (by decide) g1
  have g2 : ss_ok E29 xq := ss_ok_fr TH hst29 hmx hkx (by decide) (by decide) g2
  have g3 : ac_ok E29 xq := ac_ok_fr TH hst29 hmx hkx (by decide) (by decide) g3
  have r7 : kg_ok E29 mq := kg_ok_fr TH hst29 hmm hkm (by decide) (by decide) r7
  have r8 : sd_ok E29 mq := sd_ok_fr TH hst29 hmm hkm (by decide) (by decide) r8
  have r9 : rg_ok E29 mq := rg_ok_fr TH hst29 hmm hkm (by decide) (by decide) r9
  have hJ : lj_ok E29 xq mq := lj_ok_fr TH hst29 hmx hkx hmm hkm (by decide) (by decide) hJ
  refine W.eq (g2 := F0 m 640 ls [.int xc30]) rfl ?_
  refine lv_pop hx hb dL_law_640 rfl ?_
  refine lv_goto (tgt := 1178) hx hb dL_law_641 (by decide) ?_
  exact kk _ _ _ _ _ _ _ (by omega) (by omega) ⟨hmx, hkx, hmm, hkm, g1, g2, g3, ⟨hgpxc30_0, hgpxc30_1, hgpxc30_2, hgpxc30_3, hgpxc30_4, hgpxc30_5, hgpxc30_6, r7, r8, r9⟩, hJ⟩ TH hS
set_option maxHeartbeats 4000000 in
set_option maxRecDepth 100000 in
theorem lop_14 {p : Program} {l : Launch} {e : Env} {s : State} {m : MethodId} {below : List Frame} {meth : Method} {c : Code} {D : va_G} {cs : Nat → ClassId} {A : Nat → Prop} {b Len : Nat} {xs : Nat → Int32} (hx : p.tables.exec = Jvm.exec) (hb : c.code = cL_law) (hr : meth.sig.returnType = ret) (hml : c.maxLocals = 4) (hB : ∀ w ∈ cx_big, w.before #[Value.ref b] s = true) (hown : s.vm.findClass "TreeMergeLaw" = some m.cls) (hlocks : meth.locks = false) (hK : va_K D vwCl (cx_TY cs) s) (hN : tw_NZ D A s s.heap) (hA : ∀ q : Nat, s.heap.size ≤ q → A q) (hA2 : ∀ q : Nat, A q → s.heap.size ≤ q) (hbA : ¬ A b) (hbl : b < s.heap.size) (hX : va_X b Len xs s s.heap) (hLen : Len ≤ 3072) {xq mq : Nat} {kp : Nat → Nat} {L : List Nat} {E : Nat → va_E} (i : Int32) (hi0 : 0 ≤ i.toInt) {cells slots : Nat} (hc : cells + 12 ≤ 600000) (hs : slots + 360 ≤ 7302250) {H : Heap} {locs : List Loc} {ls : Array Slot} (I : lv_I kp L E xq mq) (TH : tw_H D cs kp L E A H) (hS : va_S A s.heap H locs) (hl : lv_has ls 4 [(3, .int i), (2, .ref mq), (1, .ref xq), (0, .ref b)]) (hi1 : i.toInt + 6 ≤ Len) (kk : ∀ (kp1 : Nat → Nat) (L1 : List Nat) (E1 : Nat → va_E) (H1 : Heap) (locs1 : List Loc) (cells1 slots1 : Nat), cells1 ≤ cells + 12 → slots1 ≤ slots + 360 → lv_I kp1 L1 E1 xq mq → tw_H D cs kp1 L1 E1 A H1 → va_S A s.heap H1 locs1 → W p l e room_1 s m #[Value.ref b] below meth c H1 locs1 cells1 slots1 (lw_Z below #[Value.ref b] s) (F0 m 1178 ls [])) : W p l e room_1 s m #[Value.ref b] below meth c H locs cells slots (lw_Z below #[Value.ref b] s) (F0 m 644 ls []) := by
  obtain ⟨hmx, hkx, hmm, hkm, g1, g2, g3, ⟨r0, r1, r2, r3, r4, r5, r6, r7, r8, r9⟩, hJ⟩ := I
  have hJ0 := hJ
  refine lv_aload_n hx hb dL_law_644 rfl (lv_at hl 2 rfl) ?_
  obtain ⟨xi1, hxi1, hxi1a, hxi1b⟩ := tw_rd TH hmm hkm (by decide) (by decide) (k := 1) rfl
  obtain ⟨xi2, hxi2, hxi2a, hxi2b⟩ := tw_rd TH hmm hkm (by decide) (by decide) (k := 14) rfl
  have TH0 := TH
  have hT0 := TH.2.2
  have hTo := TH.2.2
  refine tw_Vc (o := xq) (ci := 11) (n := 0) (post := (fun v kq Lq Eq => (∃ x : Int32, v = some (.int x) ∧ gz_ok Eq xq ∧ ss_ok Eq xq) ∧ tw_fr kp L [(0, 0), (1, 0), (3, 0), (10, 0)] [101, 102, 110, 111, 112, 113, 114, 115, 135, 140, 141, 142, 180] E Eq)) (As := []) (rest := []) ⟨hx, hb, hml, hown, hB⟩ (fun sz => tX11_close l D cs xq hmx hkx g1 g2 sz) cg_L_81_X11_close rfl rfl (by decide +kernel) ⟨Nat.le_of_ble_eq_true rfl, Nat.le_of_ble_eq_true rfl⟩ hK hN TH hS hA rfl hmx hkx (by decide) rfl hl.1 rfl (Nat.le_of_ble_eq_true rfl) dL_law_645 ⟨(by show _ ≤ 600000; omega), (by show _ ≤ 7302250; omega)⟩ (fun v3 kp3 L3 E3 H locs hq3 hx3 TH hS => ?_)
  obtain ⟨⟨xc4, rfl, hgpxc4_0, hgpxc4_1⟩, hst3⟩ := hq3
  obtain ⟨Em, THm, fm0, fm1⟩ := tw_mid TH0 hst3 hx3
  have hm3_xq := (hx3 xq hmx).1
  have hk3_xq : kp3 xq = 11 := ((hx3 xq hmx).2).trans hkx
  have hm3_mq := (hx3 mq hmm).1
  have hk3_mq : kp3 mq = 12 := ((hx3 mq hmm).2).trans hkm
  have g3 : ac_ok E3 xq := ac_ok_fr TH fm1 hm3_xq hk3_xq (by decide) (by decide) (ac_ok_fr THm fm0 hmx hkx (by decide) (by decide) g3)
  have r0 : rd_ok E3 mq := rd_ok_fr TH fm1 hm3_mq hk3_mq (by decide) (by decide) (rd_ok_fr THm fm0 hmm hkm (by decide) (by decide) r0)
  have r1 : eo_ok E3 mq := eo_ok_fr TH fm1 hm3_mq hk3_mq (by decide) (by decide) (eo_ok_fr THm fm0 hmm hkm (by decide) (by decide) r1)
  have r2 : ht_ok E3 mq := ht_ok_fr TH fm1 hm3_mq hk3_mq (by decide) (by decide) (ht_ok_fr THm fm0 hmm hkm (by decide) (by decide) r2)
  have r3 : dr_ok E3 mq := dr_ok_fr TH fm1 hm3_mq hk3_mq (by decide) (by decide) (dr_ok_fr THm fm0 hmm hkm (by decide) (by decide) r3)
  have r4 : ln_ok E3 mq := ln_ok_fr TH fm1 hm3_mq hk3_mq (by decide) (by decide) (ln_ok_fr THm fm0 hmm hkm (by decide) (by decide) r4)
  have r5 : dl_ok E3 mq := dl_ok_fr TH fm1 hm3_mq hk3_mq (by decide) (by decide) (dl_ok_fr THm fm0 hmm hkm (by decide) (by decide) r5)
  have r6 : fw_ok E3 mq := fw_ok_fr TH fm1 hm3_mq hk3_mq (by decide) (by decide) (fw_ok_fr THm fm0 hmm hkm (by decide) (by decide) r6)
  have r7 : kg_ok E3 mq := kg_ok_fr TH fm1 hm3_mq hk3_mq (by decide) (by decide) (kg_ok_fr THm fm0 hmm hkm (by decide) (by decide) r7)
  have r8 : sd_ok E3 mq := sd_ok_fr TH fm1 hm3_mq hk3_mq (by decide) (by decide) (sd_ok_fr THm fm0 hmm hkm (by decide) (by decide) r8)
  have r9 : rg_ok E3 mq := rg_ok_fr TH fm1 hm3_mq hk3_mq (by decide) (by decide) (rg_ok_fr THm fm0 hmm hkm (by decide) (by decide) r9)
  have hJ : lj_ok E3 xq mq := lj_ok_fr TH fm1 hm3_xq hk3_xq hm3_mq hk3_mq (by decide) (by decide) (lj_ok_fr THm fm0 hmx hkx hmm hkm (by decide) (by decide) hJ)
  have hmf5 : tw_fv E3 mq 1 = .int xi1 := (hst3.1 mq 1 hmm (by rw [hkm]; decide)).trans hxi1
  have hmf6 : tw_fv E3 mq 14 = .int xi2 := (hst3.1 mq 14 hmm (by rw [hkm]; decide)).trans hxi2
  refine W.eq (g2 := F0 m 648 ls [.int xc4]) rfl ?_
  refine lv_pop hx hb dL_law_648 rfl ?_
  refine lv_aload_n hx hb dL_law_649 rfl (lv_at hl 1 rfl) ?_
  have TH1 := TH
  have hT1 := TH.2.2
  refine tw_Vc (o := mq) (ci := 12) (n := 0) (post := (fun v kq Lq Eq => (∃ x : Int32, v = some (.int x) ∧ rd_ok Eq mq ∧ eo_ok Eq mq ∧ ht_ok Eq mq ∧ dr_ok Eq mq ∧ ln_ok Eq mq ∧ dl_ok Eq mq ∧ fw_ok Eq mq) ∧ kp3 = kq ∧ L3 = Lq ∧ tw_fr kp3 L3 [(12, 27), (12, 29)] [326, 327, 328, 329, 331, 333, 334, 335, 348, 349] E3 Eq)) (As := []) (rest := []) ⟨hx, hb, hml, hown, hB⟩ (fun sz => tX12_close l D cs mq hm3_mq hk3_mq r0 r1 r2 r3 r4 r5 r6 sz) cg_L_84_X12_close rfl rfl (by decide +kernel) ⟨Nat.le_of_ble_eq_true rfl, Nat.le_of_ble_eq_true rfl⟩ hK hN TH hS hA rfl hm3_mq hk3_mq (by decide) rfl hl.1 rfl (Nat.le_of_ble_eq_true rfl) dL_law_650 ⟨(by show _ ≤ 600000; omega), (by show _ ≤ 7302250; omega)⟩ (fun v7 kp7 L7 E7 H locs hq7 hx7 TH hS => ?_)
  obtain ⟨⟨xc8, rfl, hgpxc8_0, hgpxc8_1, hgpxc8_2, hgpxc8_3, hgpxc8_4, hgpxc8_5, hgpxc8_6⟩, rfl, rfl, hst7⟩ := hq7
  have hmf9 : tw_fv E7 mq 1 = .int xi1 := (hst7.1 mq 1 hm3_mq (by rw [hk3_mq]; decide)).trans hmf5
  have hmf10 : tw_fv E7 mq 14 = .int xi2 := (hst7.1 mq 14 hm3_mq (by rw [hk3_mq]; decide)).trans hmf6
  have g3 : ac_ok E7 xq := ac_ok_fr TH hst7 hm3_xq hk3_xq (by decide) (by decide) g3
  have r7 : kg_ok E7 mq := kg_ok_fr TH hst7 hm3_mq hk3_mq (by decide) (by decide) r7
  have r8 : sd_ok E7 mq := sd_ok_fr TH hst7 hm3_mq hk3_mq (by decide) (by decide) r8
  have r9 : rg_ok E7 mq := rg_ok_fr TH hst7 hm3_mq hk3_mq (by decide) (by decide) r9
  have hJ : lj_ok E7 xq mq := lj_ok_fr TH hst7 hm3_xq hk3_xq hm3_mq hk3_mq (by decide) (by decide) hJ
  have hgpxc4_0 : gz_ok E7 xq := gz_ok_fr TH hst7 hm3_xq hk3_xq (by decide) (by decide) hgpxc4_0
  have hgpxc4_1 : ss_ok E7 xq := ss_ok_fr TH hst7 hm3_xq hk3_xq (by decide) (by decide) hgpxc4_1
  refine W.eq (g2 := F0 m 653 ls [.int xc8]) rfl ?_
  refine lv_pop hx hb dL_law_653 rfl ?_
  refine lv_goto (tgt := 1178) hx hb dL_law_654 (by decide) ?_
  exact kk _ _ _ _ _ _ _ (by omega) (by omega) ⟨hm3_xq, hk3_xq, hm3_mq, hk3_mq, hgpxc4_0, hgpxc4_1, g3, ⟨hgpxc8_0, hgpxc8_1, hgpxc8_2, hgpxc8_3, hgpxc8_4, hgpxc8_5, hgpxc8_6, r7, r8, r9⟩, hJ⟩ TH hS
set_option maxHeartbeats 4000000 in
set_option maxRecDepth 100000 in
theorem lop_15 {p : Program} {l : Launch} {e : Env} {s : State} {m : MethodId} {below : List Frame} {meth : Method} {c : Code} {D : va_G} {cs : Nat → ClassId} {A : Nat → Prop} {b Len : Nat} {xs : Nat → Int32} (hx : p.tables.exec = Jvm.exec) (hb : c.code = cL_law) (hr : meth.sig.returnType = ret) (hml : c.maxLocals = 4) (hB : ∀ w ∈ cx_big, w.before #[Value.ref b] s = true) (hown : s.vm.findClass "TreeMergeLaw" = some m.cls) (hlocks : meth.locks = false) (hK : va_K D vwCl (cx_TY cs) s) (hN : tw_NZ D A s s.heap) (hA : ∀ q : Nat, s.heap.size ≤ q → A q) (hA2 : ∀ q : Nat, A q → s.heap.size ≤ q) (hbA : ¬ A b) (hbl : b < s.heap.size) (hX : va_X b Len xs s s.heap) (hLen : Len ≤ 3072) {xq mq : Nat} {kp : Nat → Nat} {L : List Nat} {E : Nat → va_E} (i : Int32) (hi0 : 0 ≤ i.toInt) {cells slots : Nat} (hc : cells + 12 ≤ 600000) (hs : slots + 360 ≤ 7302250) {H : Heap} {locs : List Loc} {ls : Array Slot} (I : lv_I kp L E xq mq) (TH : tw_H D cs kp L E A H) (hS : va_S A s.heap H locs) (hl : lv_has ls 4 [(3, .int i), (2, .ref mq), (1, .ref xq), (0, .ref b)]) (hi1 : i.toInt + 6 ≤ Len) (kk : ∀ (kp1 : Nat → Nat) (L1 : List Nat) (E1 : Nat → va_E) (H1 : Heap) (locs1 : List Loc) (cells1 slots1 : Nat), cells1 ≤ cells + 12 → slots1 ≤ slots + 360 → lv_I kp1 L1 E1 xq mq → tw_H D cs kp1 L1 E1 A H1 → va_S A s.heap H1 locs1 → W p l e room_1 s m #[Value.ref b] below meth c H1 locs1 cells1 slots1 (lw_Z below #[Value.ref b] s) (F0 m 1178 ls [])) : W p l e room_1 s m #[Value.ref b] below meth c H locs cells slots (lw_Z below #[Value.ref b] s) (F0 m 657 ls []) := by
  obtain ⟨hmx, hkx, hmm, hkm, g1, g2, g3, ⟨r0, r1, r2, r3, r4, r5, r6, r7, r8, r9⟩, hJ⟩ := I
  have hJ0 := hJ
  refine lv_aload_n hx hb dL_law_657 rfl (lv_at hl 2 rfl) ?_
  refine lv_aload_n hx hb dL_law_658 rfl (lv_at hl 3 rfl) ?_
  refine lv_iload_n hx hb dL_law_659 rfl (lv_at hl 0 rfl) ?_
  refine lv_iconst (v := 1) hx hb dL_law_660 (by decide) ?_
  refine lv_iadd hx hb dL_law_661 ?_
  refine lv_topi (fun zi1 ezi1 => ?_)
  have hzi1 : zi1.toInt = i.toInt + 1 := by rw [ezi1]; have : ((1 : Int32).toInt) = 1 := (by decide); have := ia_lo i; have := ia_hi i; exact (ia_add (by omega) (by omega)).trans (by omega)
  have h_661 := trivial
  refine va_sld hx hb hX hbl hbA hS (i := zi1) (vp_in_iff.mpr ⟨by omega, by omega⟩) dL_law_662 ?_
  obtain ⟨xs2, exs2⟩ : ∃ z : Int32, xs (Int32.toNatClampNeg zi1) = z := ⟨_, rfl⟩
  rw [exs2]
  refine lv_aload_n hx hb dL_law_663 rfl (lv_at hl 3 rfl) ?_
  refine lv_iload_n hx hb dL_law_664 rfl (lv_at hl 0 rfl) ?_
  refine lv_iconst (v := 2) hx hb dL_law_665 (by decide) ?_
  refine lv_iadd hx hb dL_law_666 ?_
  refine lv_topi (fun zi3 ezi3 => ?_)
  have hzi3 : zi3.toInt = i.toInt + 2 := by rw [ezi3]; have : ((2 : Int32).toInt) = 2 := (by decide); have := ia_lo i; have := ia_hi i; exact (ia_add (by omega) (by omega)).trans (by omega)
  have h_666 := trivial
  refine va_sld hx hb hX hbl hbA hS (i := zi3) (vp_in_iff.mpr ⟨by omega, by omega⟩) dL_law_667 ?_
  obtain ⟨xs4, exs4⟩ : ∃ z : Int32, xs (Int32.toNatClampNeg zi3) = z := ⟨_, rfl⟩
  rw [exs4]
  obtain ⟨xi5, hxi5, hxi5a, hxi5b⟩ := tw_rd TH hmm hkm (by decide) (by decide) (k := 1) rfl
  obtain ⟨xi6, hxi6, hxi6a, hxi6b⟩ := tw_rd TH hmm hkm (by decide) (by decide) (k := 14) rfl
  have TH0 := TH
  have hT0 := TH.2.2
  refine tw_Vc (o := xq) (ci := 11) (n := 2) (post := (fun v kq Lq Eq => (∃ x : Int32, v = some (.int x) ∧ gz_ok Eq xq) ∧ kp = kq ∧ L = Lq ∧ tw_fr kp L [(3, 0), (5, 10), (5, 12), (8, 0), (8, 1), (10, 0)] [101, 102, 110, 111, 112, 113, 114, 115, 135, 160, 161, 162, 163, 164, 165, 166, 167, 170, 171] E Eq)) (As := [.int xs2, .int xs4]) (rest := []) ⟨hx, hb, hml, hown, hB⟩ (fun sz => tX11_base l D cs xq xs2 xs4 hmx hkx g1 sz) cg_L_85_X11_base rfl rfl (by decide +kernel) ⟨Nat.le_of_ble_eq_true rfl, Nat.le_of_ble_eq_true rfl⟩ hK hN TH hS hA rfl hmx hkx (by decide) rfl hl.1 rfl (Nat.le_of_ble_eq_true rfl) dL_law_668 ⟨(by show _ ≤ 600000; omega), (by show _ ≤ 7302250; omega)⟩ (fun v7 kp7 L7 E7 H locs hq7 hx7 TH hS => ?_)
  obtain ⟨⟨xc8, rfl, hgpxc8_0⟩, rfl, rfl, hst7⟩ := hq7
  have hmf9 : tw_fv E7 mq 1 = .int xi5 := (hst7.1 mq 1 hmm (by rw [hkm]; decide)).trans hxi5
  have hmf10 : tw_fv E7 mq 14 = .int xi6 := (hst7.1 mq 14 hmm (by rw [hkm]; decide)).trans hxi6
  have g2 : ss_ok E7 xq := ss_ok_fr TH hst7 hmx hkx (by decide) (by decide) g2
  have g3 : ac_ok E7 xq := ac_ok_fr TH hst7 hmx hkx (by decide) (by decide) g3
  have r0 : rd_ok E7 mq := rd_ok_fr TH hst7 hmm hkm (by decide) (by decide) r0
  have r1 : eo_ok E7 mq := eo_ok_fr TH hst7 hmm hkm (by decide) (by decide) r1
  have r2 : ht_ok E7 mq := ht_ok_fr TH hst7 hmm hkm (by decide) (by decide) r2
  have r3 : dr_ok E7 mq := dr_ok_fr TH hst7 hmm hkm (by decide) (by decide) r3
  have r4 : ln_ok E7 mq := ln_ok_fr TH hst7 hmm hkm (by decide) (by decide) r4
  have r5 : dl_ok E7 mq := dl_ok_fr TH hst7 hmm hkm (by decide) (by decide) r5
  have r6 : fw_ok E7 mq := fw_ok_fr TH hst7 hmm hkm (by decide) (by decide) r6
  have r7 : kg_ok E7 mq := kg_ok_fr TH hst7 hmm hkm (by decide) (by decide) r7
  have r8 : sd_ok E7 mq := sd_ok_fr TH hst7 hmm hkm (by decide) (by decide) r8
  have r9 : rg_ok E7 mq := rg_ok_fr TH hst7 hmm hkm (by decide) (by decide) r9
  have hJ : lj_ok E7 xq mq := lj_ok_fr TH hst7 hmx hkx hmm hkm (by decide) (by decide) hJ
  refine W.eq (g2 := F0 m 671 ls [.int xc8]) rfl ?_
  refine lv_pop hx hb dL_law_671 rfl ?_
  refine lv_aload_n hx hb dL_law_672 rfl (lv_at hl 1 rfl) ?_
  refine lv_aload_n hx hb dL_law_673 rfl (lv_at hl 3 rfl) ?_
  refine lv_iload_n hx hb dL_law_674 rfl (lv_at hl 0 rfl) ?_
  refine lv_iconst (v := 1) hx hb dL_law_675 (by decide) ?_
  refine lv_iadd hx hb dL_law_676 ?_
  refine lv_topi (fun zi11 ezi11 => ?_)
  have hzi11 : zi11.toInt = i.toInt + 1 := by rw [ezi11]; have : ((1 : Int32).toInt) = 1 := (by decide); have := ia_lo i; have := ia_hi i; exact (ia_add (by omega) (by omega)).trans (by omega)
  have h_676 := trivial
  refine va_sld hx hb hX hbl hbA hS (i := zi11) (vp_in_iff.mpr ⟨by omega, by omega⟩) dL_law_677 ?_
  obtain ⟨xs12, exs12⟩ : ∃ z : Int32, xs (Int32.toNatClampNeg zi11) = z := ⟨_, rfl⟩
  rw [exs12]
  have qxs12 : xs2 = xs12 := by rw [← exs12, ← exs2, ia_ext (a := zi11) (b := zi1) (by omega)]
  subst qxs12
  refine lv_aload_n hx hb dL_law_678 rfl (lv_at hl 3 rfl) ?_
  refine lv_iload_n hx hb dL_law_679 rfl (lv_at hl 0 rfl) ?_
  refine lv_iconst (v := 2) hx hb dL_law_680 (by decide) ?_
  refine lv_iadd hx hb dL_law_681 ?_
  refine lv_topi (fun zi13 ezi13 => ?_)
  have hzi13 : zi13.toInt = i.toInt + 2 := by rw [ezi13]; have : ((2 : Int32).toInt) = 2 := (by decide); have := ia_lo i; have := ia_hi i; exact (ia_add (by omega) (by omega)).trans (by omega)
  have h_681 := trivial
  refine va_sld hx hb hX hbl hbA hS (i := zi13) (vp_in_iff.mpr ⟨by omega, by omega⟩) dL_law_682 ?_
  obtain ⟨xs14, exs14⟩ : ∃ z : Int32, xs (Int32.toNatClampNeg zi13) = z := ⟨_, rfl⟩
  rw [exs14]
  have qxs14 : xs4 = xs14 := by rw [← exs14, ← exs4, ia_ext (a := zi13) (b := zi3) (by omega)]
  subst qxs14
  have TH1 := TH
  have hT1 := TH.2.2
  refine tw_Vc (o := mq) (ci := 12) (n := 2) (post := (fun v kq Lq Eq => (∃ x : Int32, v = some (.int x) ∧ (-1) ≤ x.toInt ∧ x.toInt ≤ 100 ∧ rd_ok Eq mq ∧ eo_ok Eq mq ∧ ht_ok Eq mq ∧ dr_ok Eq mq ∧ ln_ok Eq mq ∧ dl_ok Eq mq ∧ fw_ok Eq mq) ∧ kp = kq ∧ L = Lq ∧ tw_fr kp L [(12, 57)] [326, 327, 328, 329, 348, 349, 359, 363, 364, 365] E7 Eq)) (As := [.int xs2, .int xs4]) (rest := []) ⟨hx, hb, hml, hown, hB⟩ (fun sz => tX12_base l D cs mq xs2 xs4 hmm hkm r0 r1 r2 r3 r4 r5 r6 sz) cg_L_88_X12_base rfl rfl (by decide +kernel) ⟨Nat.le_of_ble_eq_true rfl, Nat.le_of_ble_eq_true rfl⟩ hK hN TH hS hA rfl hmm hkm (by decide) rfl hl.1 rfl (Nat.le_of_ble_eq_true rfl) dL_law_683 ⟨(by show _ ≤ 600000; omega), (by show _ ≤ 7302250; omega)⟩ (fun v15 kp15 L15 E15 H locs hq15 hx15 TH hS => ?_)
  obtain ⟨⟨xc16, rfl, hxc16a, hxc16b, hgpxc16_0, hgpxc16_1, hgpxc16_2, hgpxc16_3, hgpxc16_4, hgpxc16_5, hgpxc16_6⟩, rfl, rfl, hst15⟩ := hq15
  have hmf17 : tw_fv E15 mq 1 = .int xi5 := (hst15.1 mq 1 hmm (by rw [hkm]; decide)).trans hmf9
  have hmf18 : tw_fv E15 mq 14 = .int xi6 := (hst15.1 mq 14 hmm (by rw [hkm]; decide)).trans hmf10
  have g2 : ss_ok E15 xq := ss_ok_fr TH hst15 hmx hkx (by decide) (by decide) g2
  have g3 : ac_ok E15 xq := ac_ok_fr TH hst15 hmx hkx (by decide) (by decide) g3
  have r7 : kg_ok E15 mq := kg_ok_fr TH hst15 hmm hkm (by decide) (by decide) r7
  have r8 : sd_ok E15 mq := sd_ok_fr TH hst15 hmm hkm (by decide) (by decide) r8
  have r9 : rg_ok E15 mq := rg_ok_fr TH hst15 hmm hkm (by decide) (by decide) r9
  have hJ : lj_ok E15 xq mq := lj_ok_fr TH hst15 hmx hkx hmm hkm (by decide) (by decide) hJ
  have hgpxc8_0 : gz_ok E15 xq := gz_ok_fr TH hst15 hmx hkx (by decide) (by decide) hgpxc8_0
  refine W.eq (g2 := F0 m 686 ls [.int xc16]) rfl ?_
  refine lv_pop hx hb dL_law_686 rfl ?_
  refine lv_goto (tgt := 1178) hx hb dL_law_687 (by decide) ?_
  exact kk _ _ _ _ _ _ _ (by omega) (by omega) ⟨hmx, hkx, hmm, hkm, hgpxc8_0, g2, g3, ⟨hgpxc16_0, hgpxc16_1, hgpxc16_2, hgpxc16_3, hgpxc16_4, hgpxc16_5, hgpxc16_6, r7, r8, r9⟩, hJ⟩ TH hS
set_option maxHeartbeats 4000000 in
set_option maxRecDepth 100000 in
theorem lop_16 {p : Program} {l : Launch} {e : Env} {s : State} {m : MethodId} {below : List Frame} {meth : Method} {c : Code} {D : va_G} {cs : Nat → ClassId} {A : Nat → Prop} {b Len : Nat} {xs : Nat → Int32} (hx : p.tables.exec = Jvm.exec) (hb : c.code = cL_law) (hr : meth.sig.returnType = ret) (hml : c.maxLocals = 4) (hB : ∀ w ∈ cx_big, w.before #[Value.ref b] s = true) (hown : s.vm.findClass "TreeMergeLaw" = some m.cls) (hlocks : meth.locks = false) (hK : va_K D vwCl (cx_TY cs) s) (hN : tw_NZ D A s s.heap) (hA : ∀ q : Nat, s.heap.size ≤ q → A q) (hA2 : ∀ q : Nat, A q → s.heap.size ≤ q) (hbA : ¬ A b) (hbl : b < s.heap.size) (hX : va_X b Len xs s s.heap) (hLen : Len ≤ 3072) {xq mq : Nat} {kp : Nat → Nat} {L : List Nat} {E : Nat → va_E} (i : Int32) (hi0 : 0 ≤ i.toInt) {cells slots : Nat} (hc : cells + 12 ≤ 600000) (hs : slots + 360 ≤ 7302250) {H : Heap} {locs : List Loc} {ls : Array Slot} (I : lv_I kp L E xq mq) (TH : tw_H D cs kp L E A H) (hS : va_S A s.heap H locs) (hl : lv_has ls 4 [(3, .int i), (2, .ref mq), (1, .ref xq), (0, .ref b)]) (hi1 : i.toInt + 6 ≤ Len) (kk : ∀ (kp1 : Nat → Nat) (L1 : List Nat) (E1 : Nat → va_E) (H1 : Heap) (locs1 : List Loc) (cells1 slots1 : Nat), cells1 ≤ cells + 12 → slots1 ≤ slots + 360 → lv_I kp1 L1 E1 xq mq → tw_H D cs kp1 L1 E1 A H1 → va_S A s.heap H1 locs1 → W p l e room_1 s m #[Value.ref b] below meth c H1 locs1 cells1 slots1 (lw_Z below #[Value.ref b] s) (F0 m 1178 ls [])) : W p l e room_1 s m #[Value.ref b] below meth c H locs cells slots (lw_Z below #[Value.ref b] s) (F0 m 690 ls []) := by
  obtain ⟨hmx, hkx, hmm, hkm, g1, g2, g3, ⟨r0, r1, r2, r3, r4, r5, r6, r7, r8, r9⟩, hJ⟩ := I
  have hJ0 := hJ
  refine lv_aload_n hx hb dL_law_690 rfl (lv_at hl 2 rfl) ?_
  refine lv_aload_n hx hb dL_law_691 rfl (lv_at hl 3 rfl) ?_
  refine lv_iload_n hx hb dL_law_692 rfl (lv_at hl 0 rfl) ?_
  refine lv_iconst (v := 1) hx hb dL_law_693 (by decide) ?_
  refine lv_iadd hx hb dL_law_694 ?_
  refine lv_topi (fun zi1 ezi1 => ?_)
  have hzi1 : zi1.toInt = i.toInt + 1 := by rw [ezi1]; have : ((1 : Int32).toInt) = 1 := (by decide); have := ia_lo i; have := ia_hi i; exact (ia_add (by omega) (by omega)).trans (by omega)
  have h_694 := trivial
  refine va_sld hx hb hX hbl hbA hS (i := zi1) (vp_in_iff.mpr ⟨by omega, by omega⟩) dL_law_695 ?_
  obtain ⟨xs2, exs2⟩ : ∃ z : Int32, xs (Int32.toNatClampNeg zi1) = z := ⟨_, rfl⟩
  rw [exs2]
  refine lv_aload_n hx hb dL_law_696 rfl (lv_at hl 3 rfl) ?_
  refine lv_iload_n hx hb dL_law_697 rfl (lv_at hl 0 rfl) ?_
  refine lv_iconst (v := 2) hx hb dL_law_698 (by decide) ?_
  refine lv_iadd hx hb dL_law_699 ?_
  refine lv_topi (fun zi3 ezi3 => ?_)
  have hzi3 : zi3.toInt = i.toInt + 2 := by rw [ezi3]; have : ((2 : Int32).toInt) = 2 := (by decide); have := ia_lo i; have := ia_hi i; exact (ia_add (by omega) (by omega)).trans (by omega)
  have h_699 := trivial
  refine va_sld hx hb hX hbl hbA hS (i := zi3) (vp_in_iff.mpr ⟨by omega, by omega⟩) dL_law_700 ?_
  obtain ⟨xs4, exs4⟩ : ∃ z : Int32, xs (Int32.toNatClampNeg zi3) = z := ⟨_, rfl⟩
  rw [exs4]
  obtain ⟨xi5, hxi5, hxi5a, hxi5b⟩ := tw_rd TH hmm hkm (by decide) (by decide) (k := 1) rfl
  obtain ⟨xi6, hxi6, hxi6a, hxi6b⟩ := tw_rd TH hmm hkm (by decide) (by decide) (k := 14) rfl
  have TH0 := TH
  have hT0 := TH.2.2
  have hTo := TH.2.2
  refine tw_Vc (o := xq) (ci := 11) (n := 2) (post := (fun v kq Lq Eq => (∃ x : Int32, v = some (.int x) ∧ gz_ok Eq xq ∧ ss_ok Eq xq) ∧ tw_fr kp L [(1, 0), (3, 0), (5, 10), (5, 12), (8, 0), (8, 1), (10, 0), (11, 17)] [101, 102, 110, 111, 112, 113, 114, 115, 135, 140, 141, 142, 160, 161, 162, 163, 164, 165, 166, 167, 170, 171, 181] E Eq)) (As := [.int xs2, .int xs4]) (rest := []) ⟨hx, hb, hml, hown, hB⟩ (fun sz => tX11_merge l D cs xq xs2 xs4 hmx hkx g1 g2 sz) cg_L_89_X11_merge rfl rfl (by decide +kernel) ⟨Nat.le_of_ble_eq_true rfl, Nat.le_of_ble_eq_true rfl⟩ hK hN TH hS hA rfl hmx hkx (by decide) rfl hl.1 rfl (Nat.le_of_ble_eq_true rfl) dL_law_701 ⟨(by show _ ≤ 600000; omega), (by show _ ≤ 7302250; omega)⟩ (fun v7 kp7 L7 E7 H locs hq7 hx7 TH hS => ?_)
  obtain ⟨⟨xc8, rfl, hgpxc8_0, hgpxc8_1⟩, hst7⟩ := hq7
  obtain ⟨Em, THm, fm0, fm1⟩ := tw_mid TH0 hst7 hx7
  have hm7_xq := (hx7 xq hmx).1
  have hk7_xq : kp7 xq = 11 := ((hx7 xq hmx).2).trans hkx
  have hm7_mq := (hx7 mq hmm).1
  have hk7_mq : kp7 mq = 12 := ((hx7 mq hmm).2).trans hkm
  have g3 : ac_ok E7 xq := ac_ok_fr TH fm1 hm7_xq hk7_xq (by decide) (by decide) (ac_ok_fr THm fm0 hmx hkx (by decide) (by decide) g3)
  have r0 : rd_ok E7 mq := rd_ok_fr TH fm1 hm7_mq hk7_mq (by decide) (by decide) (rd_ok_fr THm fm0 hmm hkm (by decide) (by decide) r0)
  have r1 : eo_ok E7 mq := eo_ok_fr TH fm1 hm7_mq hk7_mq (by decide) (by decide) (eo_ok_fr THm fm0 hmm hkm (by decide) (by decide) r1)
  have r2 : ht_ok E7 mq := ht_ok_fr TH fm1 hm7_mq hk7_mq (by decide) (by decide) (ht_ok_fr THm fm0 hmm hkm (by decide) (by decide) r2)
  have r3 : dr_ok E7 mq := dr_ok_fr TH fm1 hm7_mq hk7_mq (by decide) (by decide) (dr_ok_fr THm fm0 hmm hkm (by decide) (by decide) r3)
  have r4 : ln_ok E7 mq := ln_ok_fr TH fm1 hm7_mq hk7_mq (by decide) (by decide) (ln_ok_fr THm fm0 hmm hkm (by decide) (by decide) r4)
  have r5 : dl_ok E7 mq := dl_ok_fr TH fm1 hm7_mq hk7_mq (by decide) (by decide) (dl_ok_fr THm fm0 hmm hkm (by decide) (by decide) r5)
  have r6 : fw_ok E7 mq := fw_ok_fr TH fm1 hm7_mq hk7_mq (by decide) (by decide) (fw_ok_fr THm fm0 hmm hkm (by decide) (by decide) r6)
  have r7 : kg_ok E7 mq := kg_ok_fr TH fm1 hm7_mq hk7_mq (by decide) (by decide) (kg_ok_fr THm fm0 hmm hkm (by decide) (by decide) r7)
  have r8 : sd_ok E7 mq := sd_ok_fr TH fm1 hm7_mq hk7_mq (by decide) (by decide) (sd_ok_fr THm fm0 hmm hkm (by decide) (by decide) r8)
  have r9 : rg_ok E7 mq := rg_ok_fr TH fm1 hm7_mq hk7_mq (by decide) (by decide) (rg_ok_fr THm fm0 hmm hkm (by decide) (by decide) r9)
  have hJ : lj_ok E7 xq mq := lj_ok_fr TH fm1 hm7_xq hk7_xq hm7_mq hk7_mq (by decide) (by decide) (lj_ok_fr THm fm0 hmx hkx hmm hkm (by decide) (by decide) hJ)
  have hmf9 : tw_fv E7 mq 1 = .int xi5 := (hst7.1 mq 1 hmm (by rw [hkm]; decide)).trans hxi5
  have hmf10 : tw_fv E7 mq 14 = .int xi6 := (hst7.1 mq 14 hmm (by rw [hkm]; decide)).trans hxi6
  refine W.eq (g2 := F0 m 704 ls [.int xc8]) rfl ?_
  refine lv_pop hx hb dL_law_704 rfl ?_
  refine lv_aload_n hx hb dL_law_705 rfl (lv_at hl 1 rfl) ?_
  refine lv_aload_n hx hb dL_law_706 rfl (lv_at hl 3 rfl) ?_
  refine lv_iload_n hx hb dL_law_707 rfl (lv_at hl 0 rfl) ?_
  refine lv_iconst (v := 1) hx hb dL_law_708 (by decide) ?_
  refine lv_iadd hx hb dL_law_709 ?_
  refine lv_topi (fun zi11 ezi11 => ?_)
  have hzi11 : zi11.toInt = i.toInt + 1 := by rw [ezi11]; have : ((1 : Int32).toInt) = 1 := (by decide); have := ia_lo i; have := ia_hi i; exact (ia_add (by omega) (by omega)).trans (by omega)
  have h_709 := trivial
  refine va_sld hx hb hX hbl hbA hS (i := zi11) (vp_in_iff.mpr ⟨by omega, by omega⟩) dL_law_710 ?_
  obtain ⟨xs12, exs12⟩ : ∃ z : Int32, xs (Int32.toNatClampNeg zi11) = z := ⟨_, rfl⟩
  rw [exs12]
  have qxs12 : xs2 = xs12 := by rw [← exs12, ← exs2, ia_ext (a := zi11) (b := zi1) (by omega)]
  subst qxs12
  refine lv_aload_n hx hb dL_law_711 rfl (lv_at hl 3 rfl) ?_
  refine lv_iload_n hx hb dL_law_712 rfl (lv_at hl 0 rfl) ?_
  refine lv_iconst (v := 2) hx hb dL_law_713 (by decide) ?_
  refine lv_iadd hx hb dL_law_714 ?_
  refine lv_topi (fun zi13 ezi13 => ?_)
  have hzi13 : zi13.toInt = i.toInt + 2 := by rw [ezi13]; have : ((2 : Int32).toInt) = 2 := (by decide); have := ia_lo i; have := ia_hi i; exact (ia_add (by omega) (by omega)).trans (by omega)
  have h_714 := trivial
  refine va_sld hx hb hX hbl hbA hS (i := zi13) (vp_in_iff.mpr ⟨by omega, by omega⟩) dL_law_715 ?_
  obtain ⟨xs14, exs14⟩ : ∃ z : Int32, xs (Int32.toNatClampNeg zi13) = z := ⟨_, rfl⟩
  rw [exs14]
  have qxs14 : xs4 = xs14 := by rw [← exs14, ← exs4, ia_ext (a := zi13) (b := zi3) (by omega)]
  subst qxs14
  have TH1 := TH
  have hT1 := TH.2.2
  refine tw_Vc (o := mq) (ci := 12) (n := 2) (post := (fun v kq Lq Eq => (∃ x : Int32, v = some (.int x) ∧ (-1) ≤ x.toInt ∧ x.toInt ≤ 11 ∧ rd_ok Eq mq ∧ eo_ok Eq mq ∧ ht_ok Eq mq ∧ dr_ok Eq mq ∧ ln_ok Eq mq ∧ dl_ok Eq mq ∧ fw_ok Eq mq) ∧ kp7 = kq ∧ L7 = Lq ∧ tw_fr kp7 L7 [(12, 27), (12, 57)] [326, 327, 328, 329, 334, 335, 348, 349, 359, 363, 364, 365] E7 Eq)) (As := [.int xs2, .int xs4]) (rest := []) ⟨hx, hb, hml, hown, hB⟩ (fun sz => tX12_merge l D cs mq xs2 xs4 hm7_mq hk7_mq r0 r1 r2 r3 r4 r5 r6 sz) cg_L_92_X12_merge rfl rfl (by decide +kernel) ⟨Nat.le_of_ble_eq_true rfl, Nat.le_of_ble_eq_true rfl⟩ hK hN TH hS hA rfl hm7_mq hk7_mq (by decide) rfl hl.1 rfl (Nat.le_of_ble_eq_true rfl) dL_law_716 ⟨(by show _ ≤ 600000; omega), (by show _ ≤ 7302250; omega)⟩ (fun v15 kp15 L15 E15 H locs hq15 hx15 TH hS => ?_)
  obtain ⟨⟨xc16, rfl, hxc16a, hxc16b, hgpxc16_0, hgpxc16_1, hgpxc16_2, hgpxc16_3, hgpxc16_4, hgpxc16_5, hgpxc16_6⟩, rfl, rfl, hst15⟩ := hq15
  have hmf17 : tw_fv E15 mq 1 = .int xi5 := (hst15.1 mq 1 hm7_mq (by rw [hk7_mq]; decide)).trans hmf9
  have hmf18 : tw_fv E15 mq 14 = .int xi6 := (hst15.1 mq 14 hm7_mq (by rw [hk7_mq]; decide)).trans hmf10
  have g3 : ac_ok E15 xq := ac_ok_fr TH hst15 hm7_xq hk7_xq (by decide) (by decide) g3
  have r7 : kg_ok E15 mq := kg_ok_fr TH hst15 hm7_mq hk7_mq (by decide) (by decide) r7
  have r8 : sd_ok E15 mq := sd_ok_fr TH hst15 hm7_mq hk7_mq (by decide) (by decide) r8
  have r9 : rg_ok E15 mq := rg_ok_fr TH hst15 hm7_mq hk7_mq (by decide) (by decide) r9
  have hJ : lj_ok E15 xq mq := lj_ok_fr TH hst15 hm7_xq hk7_xq hm7_mq hk7_mq (by decide) (by decide) hJ
  have hgpxc8_0 : gz_ok E15 xq := gz_ok_fr TH hst15 hm7_xq hk7_xq (by decide) (by decide) hgpxc8_0
  have hgpxc8_1 : ss_ok E15 xq := ss_ok_fr TH hst15 hm7_xq hk7_xq (by decide) (by decide) hgpxc8_1
  refine W.eq (g2 := F0 m 719 ls [.int xc16]) rfl ?_
  refine lv_pop hx hb dL_law_719 rfl ?_
  refine lv_goto (tgt := 1178) hx hb dL_law_720 (by decide) ?_
  exact kk _ _ _ _ _ _ _ (by omega) (by omega) ⟨hm7_xq, hk7_xq, hm7_mq, hk7_mq, hgpxc8_0, hgpxc8_1, g3, ⟨hgpxc16_0, hgpxc16_1, hgpxc16_2, hgpxc16_3, hgpxc16_4, hgpxc16_5, hgpxc16_6, r7, r8, r9⟩, hJ⟩ TH hS
set_option maxHeartbeats 4000000 in
set_option maxRecDepth 100000 in
theorem lop_17 {p : Program} {l : Launch} {e : Env} {s : State} {m : MethodId} {below : List Frame} {meth : Method} {c : Code} {D : va_G} {cs : Nat → ClassId} {A : Nat → Prop} {b Len : Nat} {xs : Nat → Int32} (hx : p.tables.exec = Jvm.exec) (hb : c.code = cL_law) (hr : meth.sig.returnType = ret) (hml : c.maxLocals = 4) (hB : ∀ w ∈ cx_big, w.before #[Value.ref b] s = true) (hown : s.vm.findClass "TreeMergeLaw" = some m.cls) (hlocks : meth.locks = false) (hK : va_K D vwCl (cx_TY cs) s) (hN : tw_NZ D A s s.heap) (hA : ∀ q : Nat, s.heap.size ≤ q → A q) (hA2 : ∀ q : Nat, A q → s.heap.size ≤ q) (hbA : ¬ A b) (hbl : b < s.heap.size) (hX : va_X b Len xs s s.heap) (hLen : Len ≤ 3072) {xq mq : Nat} {kp : Nat → Nat} {L : List Nat} {E : Nat → va_E} (i : Int32) (hi0 : 0 ≤ i.toInt) {cells slots : Nat} (hc : cells + 12 ≤ 600000) (hs : slots + 360 ≤ 7302250) {H : Heap} {locs : List Loc} {ls : Array Slot} (I : lv_I kp L E xq mq) (TH : tw_H D cs kp L E A H) (hS : va_S A s.heap H locs) (hl : lv_has ls 4 [(3, .int i), (2, .ref mq), (1, .ref xq), (0, .ref b)]) (hi1 : i.toInt + 6 ≤ Len) (kk : ∀ (kp1 : Nat → Nat) (L1 : List Nat) (E1 : Nat → va_E) (H1 : Heap) (locs1 : List Loc) (cells1 slots1 : Nat), cells1 ≤ cells + 12 → slots1 ≤ slots + 360 → lv_I kp1 L1 E1 xq mq → tw_H D cs kp1 L1 E1 A H1 → va_S A s.heap H1 locs1 → W p l e room_1 s m #[Value.ref b] below meth c H1 locs1 cells1 slots1 (lw_Z below #[Value.ref b] s) (F0 m 1178 ls [])) : W p l e room_1 s m #[Value.ref b] below meth c H locs cells slots (lw_Z below #[Value.ref b] s) (F0 m 723 ls []) := by
  obtain ⟨hmx, hkx, hmm, hkm, g1, g2, g3, ⟨r0, r1, r2, r3, r4, r5, r6, r7, r8, r9⟩, hJ⟩ := I
  have hJ0 := hJ
  refine lv_aload_n hx hb dL_law_723 rfl (lv_at hl 2 rfl) ?_
  refine lv_aload_n hx hb dL_law_724 rfl (lv_at hl 3 rfl) ?_
  refine lv_iload_n hx hb dL_law_725 rfl (lv_at hl 0 rfl) ?_
  refine lv_iconst (v := 1) hx hb dL_law_726 (by decide) ?_
  refine lv_iadd hx hb dL_law_727 ?_
  refine lv_topi (fun zi1 ezi1 => ?_)
  have hzi1 : zi1.toInt = i.toInt + 1 := by rw [ezi1]; have : ((1 : Int32).toInt) = 1 := (by decide); have := ia_lo i; have := ia_hi i; exact (ia_add (by omega) (by omega)).trans (by omega)
  have h_727 := trivial
  refine va_sld hx hb hX hbl hbA hS (i := zi1) (vp_in_iff.mpr ⟨by omega, by omega⟩) dL_law_728 ?_
  obtain ⟨xs2, exs2⟩ : ∃ z : Int32, xs (Int32.toNatClampNeg zi1) = z := ⟨_, rfl⟩
  rw [exs2]
  refine lv_aload_n hx hb dL_law_729 rfl (lv_at hl 3 rfl) ?_
  refine lv_iload_n hx hb dL_law_730 rfl (lv_at hl 0 rfl) ?_
  refine lv_iconst (v := 2) hx hb dL_law_731 (by decide) ?_
  refine lv_iadd hx hb dL_law_732 ?_
  refine lv_topi (fun zi3 ezi3 => ?_)
  have hzi3 : zi3.toInt = i.toInt + 2 := by rw [ezi3]; have : ((2 : Int32).toInt) = 2 := (by decide); have := ia_lo i; have := ia_hi i; exact (ia_add (by omega) (by omega)).trans (by omega)
  have h_732 := trivial
  refine va_sld hx hb hX hbl hbA hS (i := zi3) (vp_in_iff.mpr ⟨by omega, by omega⟩) dL_law_733 ?_
  obtain ⟨xs4, exs4⟩ : ∃ z : Int32, xs (Int32.toNatClampNeg zi3) = z := ⟨_, rfl⟩
  rw [exs4]
  obtain ⟨xi5, hxi5, hxi5a, hxi5b⟩ := tw_rd TH hmm hkm (by decide) (by decide) (k := 1) rfl
  obtain ⟨xi6, hxi6, hxi6a, hxi6b⟩ := tw_rd TH hmm hkm (by decide) (by decide) (k := 14) rfl
  have TH0 := TH
  have hT0 := TH.2.2
  have hTo := TH.2.2
  refine tw_Vc (o := xq) (ci := 11) (n := 2) (post := (fun v kq Lq Eq => (∃ x : Int32, v = some (.int x) ∧ gz_ok Eq xq ∧ ss_ok Eq xq) ∧ tw_fr kp L [(1, 0), (3, 0), (5, 10), (5, 12), (8, 0), (8, 1), (10, 0), (11, 17)] [101, 102, 110, 111, 112, 113, 114, 115, 135, 140, 141, 142, 160, 161, 162, 163, 164, 165, 166, 167, 170, 171, 181] E Eq)) (As := [.int xs2, .int xs4]) (rest := []) ⟨hx, hb, hml, hown, hB⟩ (fun sz => tX11_carry l D cs xq xs2 xs4 hmx hkx g1 g2 sz) cg_L_93_X11_carry rfl rfl (by decide +kernel) ⟨Nat.le_of_ble_eq_true rfl, Nat.le_of_ble_eq_true rfl⟩ hK hN TH hS hA rfl hmx hkx (by decide) rfl hl.1 rfl (Nat.le_of_ble_eq_true rfl) dL_law_734 ⟨(by show _ ≤ 600000; omega), (by show _ ≤ 7302250; omega)⟩ (fun v7 kp7 L7 E7 H locs hq7 hx7 TH hS => ?_)
  obtain ⟨⟨xc8, rfl, hgpxc8_0, hgpxc8_1⟩, hst7⟩ := hq7
  obtain ⟨Em, THm, fm0, fm1⟩ := tw_mid TH0 hst7 hx7
  have hm7_xq := (hx7 xq hmx).1
  have hk7_xq : kp7 xq = 11 := ((hx7 xq hmx).2).trans hkx
  have hm7_mq := (hx7 mq hmm).1
  have hk7_mq : kp7 mq = 12 := ((hx7 mq hmm).2).trans hkm
  have g3 : ac_ok E7 xq := ac_ok_fr TH fm1 hm7_xq hk7_xq (by decide) (by decide) (ac_ok_fr THm fm0 hmx hkx (by decide) (by decide) g3)
  have r0 : rd_ok E7 mq := rd_ok_fr TH fm1 hm7_mq hk7_mq (by decide) (by decide) (rd_ok_fr THm fm0 hmm hkm (by decide) (by decide) r0)
  have r1 : eo_ok E7 mq := eo_ok_fr TH fm1 hm7_mq hk7_mq (by decide) (by decide) (eo_ok_fr THm fm0 hmm hkm (by decide) (by decide) r1)
  have r2 : ht_ok E7 mq := ht_ok_fr TH fm1 hm7_mq hk7_mq (by decide) (by decide) (ht_ok_fr THm fm0 hmm hkm (by decide) (by decide) r2)
  have r3 : dr_ok E7 mq := dr_ok_fr TH fm1 hm7_mq hk7_mq (by decide) (by decide) (dr_ok_fr THm fm0 hmm hkm (by decide) (by decide) r3)
  have r4 : ln_ok E7 mq := ln_ok_fr TH fm1 hm7_mq hk7_mq (by decide) (by decide) (ln_ok_fr THm fm0 hmm hkm (by decide) (by decide) r4)
  have r5 : dl_ok E7 mq := dl_ok_fr TH fm1 hm7_mq hk7_mq (by decide) (by decide) (dl_ok_fr THm fm0 hmm hkm (by decide) (by decide) r5)
  have r6 : fw_ok E7 mq := fw_ok_fr TH fm1 hm7_mq hk7_mq (by decide) (by decide) (fw_ok_fr THm fm0 hmm hkm (by decide) (by decide) r6)
  have r7 : kg_ok E7 mq := kg_ok_fr TH fm1 hm7_mq hk7_mq (by decide) (by decide) (kg_ok_fr THm fm0 hmm hkm (by decide) (by decide) r7)
  have r8 : sd_ok E7 mq := sd_ok_fr TH fm1 hm7_mq hk7_mq (by decide) (by decide) (sd_ok_fr THm fm0 hmm hkm (by decide) (by decide) r8)
  have r9 : rg_ok E7 mq := rg_ok_fr TH fm1 hm7_mq hk7_mq (by decide) (by decide) (rg_ok_fr THm fm0 hmm hkm (by decide) (by decide) r9)
  have hJ : lj_ok E7 xq mq := lj_ok_fr TH fm1 hm7_xq hk7_xq hm7_mq hk7_mq (by decide) (by decide) (lj_ok_fr THm fm0 hmx hkx hmm hkm (by decide) (by decide) hJ)
  have hmf9 : tw_fv E7 mq 1 = .int xi5 := (hst7.1 mq 1 hmm (by rw [hkm]; decide)).trans hxi5
  have hmf10 : tw_fv E7 mq 14 = .int xi6 := (hst7.1 mq 14 hmm (by rw [hkm]; decide)).trans hxi6
  refine W.eq (g2 := F0 m 737 ls [.int xc8]) rfl ?_
  refine lv_pop hx hb dL_law_737 rfl ?_
  refine lv_aload_n hx hb dL_law_738 rfl (lv_at hl 1 rfl) ?_
  refine lv_aload_n hx hb dL_law_739 rfl (lv_at hl 3 rfl) ?_
  refine lv_iload_n hx hb dL_law_740 rfl (lv_at hl 0 rfl) ?_
  refine lv_iconst (v := 1) hx hb dL_law_741 (by decide) ?_
  refine lv_iadd hx hb dL_law_742 ?_
  refine lv_topi (fun zi11 ezi11 => ?_)
  have hzi11 : zi11.toInt = i.toInt + 1 := by rw [ezi11]; have : ((1 : Int32).toInt) = 1 := (by decide); have := ia_lo i; have := ia_hi i; exact (ia_add (by omega) (by omega)).trans (by omega)
  have h_742 := trivial
  refine va_sld hx hb hX hbl hbA hS (i := zi11) (vp_in_iff.mpr ⟨by omega, by omega⟩) dL_law_743 ?_
  obtain ⟨xs12, exs12⟩ : ∃ z : Int32, xs (Int32.toNatClampNeg zi11) = z := ⟨_, rfl⟩
  rw [exs12]
  have qxs12 : xs2 = xs12 := by rw [← exs12, ← exs2, ia_ext (a := zi11) (b := zi1) (by omega)]
  subst qxs12
  refine lv_aload_n hx hb dL_law_744 rfl (lv_at hl 3 rfl) ?_
  refine lv_iload_n hx hb dL_law_745 rfl (lv_at hl 0 rfl) ?_
  refine lv_iconst (v := 2) hx hb dL_law_746 (by decide) ?_
  refine lv_iadd hx hb dL_law_747 ?_
  refine lv_topi (fun zi13 ezi13 => ?_)
  have hzi13 : zi13.toInt = i.toInt + 2 := by rw [ezi13]; have : ((2 : Int32).toInt) = 2 := (by decide); have := ia_lo i; have := ia_hi i; exact (ia_add (by omega) (by omega)).trans (by omega)
  have h_747 := trivial
  refine va_sld hx hb hX hbl hbA hS (i := zi13) (vp_in_iff.mpr ⟨by omega, by omega⟩) dL_law_748 ?_
  obtain ⟨xs14, exs14⟩ : ∃ z : Int32, xs (Int32.toNatClampNeg zi13) = z := ⟨_, rfl⟩
  rw [exs14]
  have qxs14 : xs4 = xs14 := by rw [← exs14, ← exs4, ia_ext (a := zi13) (b := zi3) (by omega)]
  subst qxs14
  have TH1 := TH
  have hT1 := TH.2.2
  refine tw_Vc (o := mq) (ci := 12) (n := 2) (post := (fun v kq Lq Eq => (∃ x : Int32, v = some (.int x) ∧ (-1) ≤ x.toInt ∧ x.toInt ≤ 11 ∧ rd_ok Eq mq ∧ eo_ok Eq mq ∧ ht_ok Eq mq ∧ dr_ok Eq mq ∧ ln_ok Eq mq ∧ dl_ok Eq mq ∧ fw_ok Eq mq) ∧ kp7 = kq ∧ L7 = Lq ∧ tw_fr kp7 L7 [(12, 27), (12, 57)] [326, 327, 328, 329, 334, 335, 348, 349, 359, 363, 364] E7 Eq)) (As := [.int xs2, .int xs4]) (rest := []) ⟨hx, hb, hml, hown, hB⟩ (fun sz => tX12_carry l D cs mq xs2 xs4 hm7_mq hk7_mq r0 r1 r2 r3 r4 r5 r6 sz) cg_L_96_X12_carry rfl rfl (by decide +kernel) ⟨Nat.le_of_ble_eq_true rfl, Nat.le_of_ble_eq_true rfl⟩ hK hN TH hS hA rfl hm7_mq hk7_mq (by decide) rfl hl.1 rfl (Nat.le_of_ble_eq_true rfl) dL_law_749 ⟨(by show _ ≤ 600000; omega), (by show _ ≤ 7302250; omega)⟩ (fun v15 kp15 L15 E15 H locs hq15 hx15 TH hS => ?_)
  obtain ⟨⟨xc16, rfl, hxc16a, hxc16b, hgpxc16_0, hgpxc16_1, hgpxc16_2, hgpxc16_3, hgpxc16_4, hgpxc16_5, hgpxc16_6⟩, rfl, rfl, hst15⟩ := hq15
  have hmf17 : tw_fv E15 mq 1 = .int xi5 := (hst15.1 mq 1 hm7_mq (by rw [hk7_mq]; decide)).trans hmf9
  have hmf18 : tw_fv E15 mq 14 = .int xi6 := (hst15.1 mq 14 hm7_mq (by rw [hk7_mq]; decide)).trans hmf10
  have g3 : ac_ok E15 xq := ac_ok_fr TH hst15 hm7_xq hk7_xq (by decide) (by decide) g3
  have r7 : kg_ok E15 mq := kg_ok_fr TH hst15 hm7_mq hk7_mq (by decide) (by decide) r7
  have r8 : sd_ok E15 mq := sd_ok_fr TH hst15 hm7_mq hk7_mq (by decide) (by decide) r8
  have r9 : rg_ok E15 mq := rg_ok_fr TH hst15 hm7_mq hk7_mq (by decide) (by decide) r9
  have hJ : lj_ok E15 xq mq := lj_ok_fr TH hst15 hm7_xq hk7_xq hm7_mq hk7_mq (by decide) (by decide) hJ
  have hgpxc8_0 : gz_ok E15 xq := gz_ok_fr TH hst15 hm7_xq hk7_xq (by decide) (by decide) hgpxc8_0
  have hgpxc8_1 : ss_ok E15 xq := ss_ok_fr TH hst15 hm7_xq hk7_xq (by decide) (by decide) hgpxc8_1
  refine W.eq (g2 := F0 m 752 ls [.int xc16]) rfl ?_
  refine lv_pop hx hb dL_law_752 rfl ?_
  refine lv_goto (tgt := 1178) hx hb dL_law_753 (by decide) ?_
  exact kk _ _ _ _ _ _ _ (by omega) (by omega) ⟨hm7_xq, hk7_xq, hm7_mq, hk7_mq, hgpxc8_0, hgpxc8_1, g3, ⟨hgpxc16_0, hgpxc16_1, hgpxc16_2, hgpxc16_3, hgpxc16_4, hgpxc16_5, hgpxc16_6, r7, r8, r9⟩, hJ⟩ TH hS
set_option maxHeartbeats 4000000 in
set_option maxRecDepth 100000 in
theorem lop_18 {p : Program} {l : Launch} {e : Env} {s : State} {m : MethodId} {below : List Frame} {meth : Method} {c : Code} {D : va_G} {cs : Nat → ClassId} {A : Nat → Prop} {b Len : Nat} {xs : Nat → Int32} (hx : p.tables.exec = Jvm.exec) (hb : c.code = cL_law) (hr : meth.sig.returnType = ret) (hml : c.maxLocals = 4) (hB : ∀ w ∈ cx_big, w.before #[Value.ref b] s = true) (hown : s.vm.findClass "TreeMergeLaw" = some m.cls) (hlocks : meth.locks = false) (hK : va_K D vwCl (cx_TY cs) s) (hN : tw_NZ D A s s.heap) (hA : ∀ q : Nat, s.heap.size ≤ q → A q) (hA2 : ∀ q : Nat, A q → s.heap.size ≤ q) (hbA : ¬ A b) (hbl : b < s.heap.size) (hX : va_X b Len xs s s.heap) (hLen : Len ≤ 3072) {xq mq : Nat} {kp : Nat → Nat} {L : List Nat} {E : Nat → va_E} (i : Int32) (hi0 : 0 ≤ i.toInt) {cells slots : Nat} (hc : cells + 12 ≤ 600000) (hs : slots + 360 ≤ 7302250) {H : Heap} {locs : List Loc} {ls : Array Slot} (I : lv_I kp L E xq mq) (TH : tw_H D cs kp L E A H) (hS : va_S A s.heap H locs) (hl : lv_has ls 4 [(3, .int i), (2, .ref mq), (1, .ref xq), (0, .ref b)]) (hi1 : i.toInt + 6 ≤ Len) (kk : ∀ (kp1 : Nat → Nat) (L1 : List Nat) (E1 : Nat → va_E) (H1 : Heap) (locs1 : List Loc) (cells1 slots1 : Nat), cells1 ≤ cells + 12 → slots1 ≤ slots + 360 → lv_I kp1 L1 E1 xq mq → tw_H D cs kp1 L1 E1 A H1 → va_S A s.heap H1 locs1 → W p l e room_1 s m #[Value.ref b] below meth c H1 locs1 cells1 slots1 (lw_Z below #[Value.ref b] s) (F0 m 1178 ls [])) : W p l e room_1 s m #[Value.ref b] below meth c H locs cells slots (lw_Z below #[Value.ref b] s) (F0 m 756 ls []) := by
  obtain ⟨hmx, hkx, hmm, hkm, g1, g2, g3, ⟨r0, r1, r2, r3, r4, r5, r6, r7, r8, r9⟩, hJ⟩ := I
  have hJ0 := hJ
  refine lv_aload_n hx hb dL_law_756 rfl (lv_at hl 2 rfl) ?_
  refine lv_aload_n hx hb dL_law_757 rfl (lv_at hl 3 rfl) ?_
  refine lv_iload_n hx hb dL_law_758 rfl (lv_at hl 0 rfl) ?_
  refine lv_iconst (v := 1) hx hb dL_law_759 (by decide) ?_
  refine lv_iadd hx hb dL_law_760 ?_
  refine lv_topi (fun zi1 ezi1 => ?_)
  have hzi1 : zi1.toInt = i.toInt + 1 := by rw [ezi1]; have : ((1 : Int32).toInt) = 1 := (by decide); have := ia_lo i; have := ia_hi i; exact (ia_add (by omega) (by omega)).trans (by omega)
  have h_760 := trivial
  refine va_sld hx hb hX hbl hbA hS (i := zi1) (vp_in_iff.mpr ⟨by omega, by omega⟩) dL_law_761 ?_
  obtain ⟨xs2, exs2⟩ : ∃ z : Int32, xs (Int32.toNatClampNeg zi1) = z := ⟨_, rfl⟩
  rw [exs2]
  refine lv_aload_n hx hb dL_law_762 rfl (lv_at hl 3 rfl) ?_
  refine lv_iload_n hx hb dL_law_763 rfl (lv_at hl 0 rfl) ?_
  refine lv_iconst (v := 2) hx hb dL_law_764 (by decide) ?_
  refine lv_iadd hx hb dL_law_765 ?_
  refine lv_topi (fun zi3 ezi3 => ?_)
  have hzi3 : zi3.toInt = i.toInt + 2 := by rw [ezi3]; have : ((2 : Int32).toInt) = 2 := (by decide); have := ia_lo i; have := ia_hi i; exact (ia_add (by omega) (by omega)).trans (by omega)
  have h_765 := trivial
  refine va_sld hx hb hX hbl hbA hS (i := zi3) (vp_in_iff.mpr ⟨by omega, by omega⟩) dL_law_766 ?_
  obtain ⟨xs4, exs4⟩ : ∃ z : Int32, xs (Int32.toNatClampNeg zi3) = z := ⟨_, rfl⟩
  rw [exs4]
  obtain ⟨xi5, hxi5, hxi5a, hxi5b⟩ := tw_rd TH hmm hkm (by decide) (by decide) (k := 1) rfl
  obtain ⟨xi6, hxi6, hxi6a, hxi6b⟩ := tw_rd TH hmm hkm (by decide) (by decide) (k := 14) rfl
  have TH0 := TH
  have hT0 := TH.2.2
  have hTo := TH.2.2
  refine tw_Vc (o := xq) (ci := 11) (n := 2) (post := (fun v kq Lq Eq => (∃ x : Int32, v = some (.int x) ∧ gz_ok Eq xq ∧ ss_ok Eq xq) ∧ tw_fr kp L [(1, 0), (3, 0), (5, 10), (5, 12), (8, 0), (8, 1), (10, 0), (11, 17)] [101, 102, 110, 111, 112, 113, 114, 115, 135, 140, 141, 142, 160, 161, 162, 163, 164, 165, 166, 167, 170, 171, 181] E Eq)) (As := [.int xs2, .int xs4]) (rest := []) ⟨hx, hb, hml, hown, hB⟩ (fun sz => tX11_back l D cs xq xs2 xs4 hmx hkx g1 g2 sz) cg_L_97_X11_back rfl rfl (by decide +kernel) ⟨Nat.le_of_ble_eq_true rfl, Nat.le_of_ble_eq_true rfl⟩ hK hN TH hS hA rfl hmx hkx (by decide) rfl hl.1 rfl (Nat.le_of_ble_eq_true rfl) dL_law_767 ⟨(by show _ ≤ 600000; omega), (by show _ ≤ 7302250; omega)⟩ (fun v7 kp7 L7 E7 H locs hq7 hx7 TH hS => ?_)
  obtain ⟨⟨xc8, rfl, hgpxc8_0, hgpxc8_1⟩, hst7⟩ := hq7
  obtain ⟨Em, THm, fm0, fm1⟩ := tw_mid TH0 hst7 hx7
  have hm7_xq := (hx7 xq hmx).1
  have hk7_xq : kp7 xq = 11 := ((hx7 xq hmx).2).trans hkx
  have hm7_mq := (hx7 mq hmm).1
  have hk7_mq : kp7 mq = 12 := ((hx7 mq hmm).2).trans hkm
  have g3 : ac_ok E7 xq := ac_ok_fr TH fm1 hm7_xq hk7_xq (by decide) (by decide) (ac_ok_fr THm fm0 hmx hkx (by decide) (by decide) g3)
  have r0 : rd_ok E7 mq := rd_ok_fr TH fm1 hm7_mq hk7_mq (by decide) (by decide) (rd_ok_fr THm fm0 hmm hkm (by decide) (by decide) r0)
  have r1 : eo_ok E7 mq := eo_ok_fr TH fm1 hm7_mq hk7_mq (by decide) (by decide) (eo_ok_fr THm fm0 hmm hkm (by decide) (by decide) r1)
  have r2 : ht_ok E7 mq := ht_ok_fr TH fm1 hm7_mq hk7_mq (by decide) (by decide) (ht_ok_fr THm fm0 hmm hkm (by decide) (by decide) r2)
  have r3 : dr_ok E7 mq := dr_ok_fr TH fm1 hm7_mq hk7_mq (by decide) (by decide) (dr_ok_fr THm fm0 hmm hkm (by decide) (by decide) r3)
  have r4 : ln_ok E7 mq := ln_ok_fr TH fm1 hm7_mq hk7_mq (by decide) (by decide) (ln_ok_fr THm fm0 hmm hkm (by decide) (by decide) r4)
  have r5 : dl_ok E7 mq := dl_ok_fr TH fm1 hm7_mq hk7_mq (by decide) (by decide) (dl_ok_fr THm fm0 hmm hkm (by decide) (by decide) r5)
  have r6 : fw_ok E7 mq := fw_ok_fr TH fm1 hm7_mq hk7_mq (by decide) (by decide) (fw_ok_fr THm fm0 hmm hkm (by decide) (by decide) r6)
  have r7 : kg_ok E7 mq := kg_ok_fr TH fm1 hm7_mq hk7_mq (by decide) (by decide) (kg_ok_fr THm fm0 hmm hkm (by decide) (by decide) r7)
  have r8 : sd_ok E7 mq := sd_ok_fr TH fm1 hm7_mq hk7_mq (by decide) (by decide) (sd_ok_fr THm fm0 hmm hkm (by decide) (by decide) r8)
  have r9 : rg_ok E7 mq := rg_ok_fr TH fm1 hm7_mq hk7_mq (by decide) (by decide) (rg_ok_fr THm fm0 hmm hkm (by decide) (by decide) r9)
  have hJ : lj_ok E7 xq mq := lj_ok_fr TH fm1 hm7_xq hk7_xq hm7_mq hk7_mq (by decide) (by decide) (lj_ok_fr THm fm0 hmx hkx hmm hkm (by decide) (by decide) hJ)
  have hmf9 : tw_fv E7 mq 1 = .int xi5 := (hst7.1 mq 1 hmm (by rw [hkm]; decide)).trans hxi5
  have hmf10 : tw_fv E7 mq 14 = .int xi6 := (hst7.1 mq 14 hmm (by rw [hkm]; decide)).trans hxi6
  refine W.eq (g2 := F0 m 770 ls [.int xc8]) rfl ?_
  refine lv_pop hx hb dL_law_770 rfl ?_
  refine lv_aload_n hx hb dL_law_771 rfl (lv_at hl 1 rfl) ?_
  refine lv_aload_n hx hb dL_law_772 rfl (lv_at hl 3 rfl) ?_
  refine lv_iload_n hx hb dL_law_773 rfl (lv_at hl 0 rfl) ?_
  refine lv_iconst (v := 1) hx hb dL_law_774 (by decide) ?_
  refine lv_iadd hx hb dL_law_775 ?_
  refine lv_topi (fun zi11 ezi11 => ?_)
  have hzi11 : zi11.toInt = i.toInt + 1 := by rw [ezi11]; have : ((1 : Int32).toInt) = 1 := (by decide); have := ia_lo i; have := ia_hi i; exact (ia_add (by omega) (by omega)).trans (by omega)
  have h_775 := trivial
  refine va_sld hx hb hX hbl hbA hS (i := zi11) (vp_in_iff.mpr ⟨by omega, by omega⟩) dL_law_776 ?_
  obtain ⟨xs12, exs12⟩ : ∃ z : Int32, xs (Int32.toNatClampNeg zi11) = z := ⟨_, rfl⟩
  rw [exs12]
  have qxs12 : xs2 = xs12 := by rw [← exs12, ← exs2, ia_ext (a := zi11) (b := zi1) (by omega)]
  subst qxs12
  refine lv_aload_n hx hb dL_law_777 rfl (lv_at hl 3 rfl) ?_
  refine lv_iload_n hx hb dL_law_778 rfl (lv_at hl 0 rfl) ?_
  refine lv_iconst (v := 2) hx hb dL_law_779 (by decide) ?_
  refine lv_iadd hx hb dL_law_780 ?_
  refine lv_topi (fun zi13 ezi13 => ?_)
  have hzi13 : zi13.toInt = i.toInt + 2 := by rw [ezi13]; have : ((2 : Int32).toInt) = 2 := (by decide); have := ia_lo i; have := ia_hi i; exact (ia_add (by omega) (by omega)).trans (by omega)
  have h_780 := trivial
  refine va_sld hx hb hX hbl hbA hS (i := zi13) (vp_in_iff.mpr ⟨by omega, by omega⟩) dL_law_781 ?_
  obtain ⟨xs14, exs14⟩ : ∃ z : Int32, xs (Int32.toNatClampNeg zi13) = z := ⟨_, rfl⟩
  rw [exs14]
  have qxs14 : xs4 = xs14 := by rw [← exs14, ← exs4, ia_ext (a := zi13) (b := zi3) (by omega)]
  subst qxs14
  have TH1 := TH
  have hT1 := TH.2.2
  refine tw_Vc (o := mq) (ci := 12) (n := 2) (post := (fun v kq Lq Eq => (∃ x : Int32, v = some (.int x) ∧ (-1) ≤ x.toInt ∧ x.toInt ≤ 11 ∧ rd_ok Eq mq ∧ eo_ok Eq mq ∧ ht_ok Eq mq ∧ dr_ok Eq mq ∧ ln_ok Eq mq ∧ dl_ok Eq mq ∧ fw_ok Eq mq) ∧ kp7 = kq ∧ L7 = Lq ∧ tw_fr kp7 L7 [(12, 27), (12, 57)] [326, 327, 328, 329, 334, 335, 348, 349, 359, 363, 364] E7 Eq)) (As := [.int xs2, .int xs4]) (rest := []) ⟨hx, hb, hml, hown, hB⟩ (fun sz => tX12_back l D cs mq xs2 xs4 hm7_mq hk7_mq r0 r1 r2 r3 r4 r5 r6 sz) cg_L_100_X12_back rfl rfl (by decide +kernel) ⟨Nat.le_of_ble_eq_true rfl, Nat.le_of_ble_eq_true rfl⟩ hK hN TH hS hA rfl hm7_mq hk7_mq (by decide) rfl hl.1 rfl (Nat.le_of_ble_eq_true rfl) dL_law_782 ⟨(by show _ ≤ 600000; omega), (by show _ ≤ 7302250; omega)⟩ (fun v15 kp15 L15 E15 H locs hq15 hx15 TH hS => ?_)
  obtain ⟨⟨xc16, rfl, hxc16a, hxc16b, hgpxc16_0, hgpxc16_1, hgpxc16_2, hgpxc16_3, hgpxc16_4, hgpxc16_5, hgpxc16_6⟩, rfl, rfl, hst15⟩ := hq15
  have hmf17 : tw_fv E15 mq 1 = .int xi5 := (hst15.1 mq 1 hm7_mq (by rw [hk7_mq]; decide)).trans hmf9
  have hmf18 : tw_fv E15 mq 14 = .int xi6 := (hst15.1 mq 14 hm7_mq (by rw [hk7_mq]; decide)).trans hmf10
  have g3 : ac_ok E15 xq := ac_ok_fr TH hst15 hm7_xq hk7_xq (by decide) (by decide) g3
  have r7 : kg_ok E15 mq := kg_ok_fr TH hst15 hm7_mq hk7_mq (by decide) (by decide) r7
  have r8 : sd_ok E15 mq := sd_ok_fr TH hst15 hm7_mq hk7_mq (by decide) (by decide) r8
  have r9 : rg_ok E15 mq := rg_ok_fr TH hst15 hm7_mq hk7_mq (by decide) (by decide) r9
  have hJ : lj_ok E15 xq mq := lj_ok_fr TH hst15 hm7_xq hk7_xq hm7_mq hk7_mq (by decide) (by decide) hJ
  have hgpxc8_0 : gz_ok E15 xq := gz_ok_fr TH hst15 hm7_xq hk7_xq (by decide) (by decide) hgpxc8_0
  have hgpxc8_1 : ss_ok E15 xq := ss_ok_fr TH hst15 hm7_xq hk7_xq (by decide) (by decide) hgpxc8_1
  refine W.eq (g2 := F0 m 785 ls [.int xc16]) rfl ?_
  refine lv_pop hx hb dL_law_785 rfl ?_
  refine lv_goto (tgt := 1178) hx hb dL_law_786 (by decide) ?_
  exact kk _ _ _ _ _ _ _ (by omega) (by omega) ⟨hm7_xq, hk7_xq, hm7_mq, hk7_mq, hgpxc8_0, hgpxc8_1, g3, ⟨hgpxc16_0, hgpxc16_1, hgpxc16_2, hgpxc16_3, hgpxc16_4, hgpxc16_5, hgpxc16_6, r7, r8, r9⟩, hJ⟩ TH hS
set_option maxHeartbeats 4000000 in
set_option maxRecDepth 100000 in
theorem lop_19 {p : Program} {l : Launch} {e : Env} {s : State} {m : MethodId} {below : List Frame} {meth : Method} {c : Code} {D : va_G} {cs : Nat → ClassId} {A : Nat → Prop} {b Len : Nat} {xs : Nat → Int32} (hx : p.tables.exec = Jvm.exec) (hb : c.code = cL_law) (hr : meth.sig.returnType = ret) (hml : c.maxLocals = 4) (hB : ∀ w ∈ cx_big, w.before #[Value.ref b] s = true) (hown : s.vm.findClass "TreeMergeLaw" = some m.cls) (hlocks : meth.locks = false) (hK : va_K D vwCl (cx_TY cs) s) (hN : tw_NZ D A s s.heap) (hA : ∀ q : Nat, s.heap.size ≤ q → A q) (hA2 : ∀ q : Nat, A q → s.heap.size ≤ q) (hbA : ¬ A b) (hbl : b < s.heap.size) (hX : va_X b Len xs s s.heap) (hLen : Len ≤ 3072) {xq mq : Nat} {kp : Nat → Nat} {L : List Nat} {E : Nat → va_E} (i : Int32) (hi0 : 0 ≤ i.toInt) {cells slots : Nat} (hc : cells + 12 ≤ 600000) (hs : slots + 360 ≤ 7302250) {H : Heap} {locs : List Loc} {ls : Array Slot} (I : lv_I kp L E xq mq) (TH : tw_H D cs kp L E A H) (hS : va_S A s.heap H locs) (hl : lv_has ls 4 [(3, .int i), (2, .ref mq), (1, .ref xq), (0, .ref b)]) (hi1 : i.toInt + 6 ≤ Len) (kk : ∀ (kp1 : Nat → Nat) (L1 : List Nat) (E1 : Nat → va_E) (H1 : Heap) (locs1 : List Loc) (cells1 slots1 : Nat), cells1 ≤ cells + 12 → slots1 ≤ slots + 360 → lv_I kp1 L1 E1 xq mq → tw_H D cs kp1 L1 E1 A H1 → va_S A s.heap H1 locs1 → W p l e room_1 s m #[Value.ref b] below meth c H1 locs1 cells1 slots1 (lw_Z below #[Value.ref b] s) (F0 m 1178 ls [])) : W p l e room_1 s m #[Value.ref b] below meth c H locs cells slots (lw_Z below #[Value.ref b] s) (F0 m 789 ls []) := by
  obtain ⟨hmx, hkx, hmm, hkm, g1, g2, g3, ⟨r0, r1, r2, r3, r4, r5, r6, r7, r8, r9⟩, hJ⟩ := I
  have hJ0 := hJ
  refine lv_aload_n hx hb dL_law_789 rfl (lv_at hl 2 rfl) ?_
  refine lv_aload_n hx hb dL_law_790 rfl (lv_at hl 3 rfl) ?_
  refine lv_iload_n hx hb dL_law_791 rfl (lv_at hl 0 rfl) ?_
  refine lv_iconst (v := 1) hx hb dL_law_792 (by decide) ?_
  refine lv_iadd hx hb dL_law_793 ?_
  refine lv_topi (fun zi1 ezi1 => ?_)
  have hzi1 : zi1.toInt = i.toInt + 1 := by rw [ezi1]; have : ((1 : Int32).toInt) = 1 := (by decide); have := ia_lo i; have := ia_hi i; exact (ia_add (by omega) (by omega)).trans (by omega)
  have h_793 := trivial
  refine va_sld hx hb hX hbl hbA hS (i := zi1) (vp_in_iff.mpr ⟨by omega, by omega⟩) dL_law_794 ?_
  obtain ⟨xs2, exs2⟩ : ∃ z : Int32, xs (Int32.toNatClampNeg zi1) = z := ⟨_, rfl⟩
  rw [exs2]
  obtain ⟨xi3, hxi3, hxi3a, hxi3b⟩ := tw_rd TH hmm hkm (by decide) (by decide) (k := 1) rfl
  obtain ⟨xi4, hxi4, hxi4a, hxi4b⟩ := tw_rd TH hmm hkm (by decide) (by decide) (k := 14) rfl
  have TH0 := TH
  have hT0 := TH.2.2
  refine tw_Vc (o := xq) (ci := 11) (n := 1) (post := (fun v kq Lq Eq => (∃ x : Int32, v = some (.int x)) ∧ kp = kq ∧ L = Lq ∧ E = Eq)) (As := [.int xs2]) (rest := []) ⟨hx, hb, hml, hown, hB⟩ (fun sz => tX11_quarrel l D cs xq xs2 hmx hkx sz) cg_L_101_X11_quarrel rfl rfl (by decide +kernel) ⟨Nat.le_of_ble_eq_true rfl, Nat.le_of_ble_eq_true rfl⟩ hK hN TH hS hA rfl hmx hkx (by decide) rfl hl.1 rfl (Nat.le_of_ble_eq_true rfl) dL_law_795 ⟨(by show _ ≤ 600000; omega), (by show _ ≤ 7302250; omega)⟩ (fun v5 kp5 L5 E5 H locs hq5 hx5 TH hS => ?_)
  obtain ⟨⟨xc6, rfl⟩, rfl, rfl, rfl⟩ := hq5
  refine W.eq (g2 := F0 m 798 ls [.int xc6]) rfl ?_
  refine lv_pop hx hb dL_law_798 rfl ?_
  refine lv_aload_n hx hb dL_law_799 rfl (lv_at hl 1 rfl) ?_
  refine lv_aload_n hx hb dL_law_800 rfl (lv_at hl 3 rfl) ?_
  refine lv_iload_n hx hb dL_law_801 rfl (lv_at hl 0 rfl) ?_
  refine lv_iconst (v := 1) hx hb dL_law_802 (by decide) ?_
  refine lv_iadd hx hb dL_law_803 ?_
  refine lv_topi (fun zi7 ezi7 => ?_)
  have hzi7 : zi7.toInt = i.toInt + 1 := by rw [ezi7]; have : ((1 : Int32).toInt) = 1 := (by decide); have := ia_lo i; have := ia_hi i; exact (ia_add (by omega) (by omega)).trans (by omega)
  have h_803 := trivial
  refine va_sld hx hb hX hbl hbA hS (i := zi7) (vp_in_iff.mpr ⟨by omega, by omega⟩) dL_law_804 ?_
  obtain ⟨xs8, exs8⟩ : ∃ z : Int32, xs (Int32.toNatClampNeg zi7) = z := ⟨_, rfl⟩
  rw [exs8]
  have qxs8 : xs2 = xs8 := by rw [← exs8, ← exs2, ia_ext (a := zi7) (b := zi1) (by omega)]
  subst qxs8
  have TH1 := TH
  have hT1 := TH.2.2
  refine tw_Vc (o := mq) (ci := 12) (n := 1) (post := (fun v kq Lq Eq => (∃ x : Int32, v = some (.int x)) ∧ kp = kq ∧ L = Lq ∧ E = Eq)) (As := [.int xs2]) (rest := []) ⟨hx, hb, hml, hown, hB⟩ (fun sz => tX12_quarrel l D cs mq xs2 hmm hkm sz) cg_L_104_X12_quarrel rfl rfl (by decide +kernel) ⟨Nat.le_of_ble_eq_true rfl, Nat.le_of_ble_eq_true rfl⟩ hK hN TH hS hA rfl hmm hkm (by decide) rfl hl.1 rfl (Nat.le_of_ble_eq_true rfl) dL_law_805 ⟨(by show _ ≤ 600000; omega), (by show _ ≤ 7302250; omega)⟩ (fun v9 kp9 L9 E9 H locs hq9 hx9 TH hS => ?_)
  obtain ⟨⟨xc10, rfl⟩, rfl, rfl, rfl⟩ := hq9
  refine W.eq (g2 := F0 m 808 ls [.int xc10]) rfl ?_
  refine lv_pop hx hb dL_law_808 rfl ?_
  refine lv_goto (tgt := 1178) hx hb dL_law_809 (by decide) ?_
  exact kk _ _ _ _ _ _ _ (by omega) (by omega) ⟨hmx, hkx, hmm, hkm, g1, g2, g3, ⟨r0, r1, r2, r3, r4, r5, r6, r7, r8, r9⟩, hJ⟩ TH hS
set_option maxHeartbeats 4000000 in
set_option maxRecDepth 100000 in
theorem lop_20 {p : Program} {l : Launch} {e : Env} {s : State} {m : MethodId} {below : List Frame} {meth : Method} {c : Code} {D : va_G} {cs : Nat → ClassId} {A : Nat → Prop} {b Len : Nat} {xs : Nat → Int32} (hx : p.tables.exec = Jvm.exec) (hb : c.code = cL_law) (hr : meth.sig.returnType = ret) (hml : c.maxLocals = 4) (hB : ∀ w ∈ cx_big, w.before #[Value.ref b] s = true) (hown : s.vm.findClass "TreeMergeLaw" = some m.cls) (hlocks : meth.locks = false) (hK : va_K D vwCl (cx_TY cs) s) (hN : tw_NZ D A s s.heap) (hA : ∀ q : Nat, s.heap.size ≤ q → A q) (hA2 : ∀ q : Nat, A q → s.heap.size ≤ q) (hbA : ¬ A b) (hbl : b < s.heap.size) (hX : va_X b Len xs s s.heap) (hLen : Len ≤ 3072) {xq mq : Nat} {kp : Nat → Nat} {L : List Nat} {E : Nat → va_E} (i : Int32) (hi0 : 0 ≤ i.toInt) {cells slots : Nat} (hc : cells + 12 ≤ 600000) (hs : slots + 360 ≤ 7302250) {H : Heap} {locs : List Loc} {ls : Array Slot} (I : lv_I kp L E xq mq) (TH : tw_H D cs kp L E A H) (hS : va_S A s.heap H locs) (hl : lv_has ls 4 [(3, .int i), (2, .ref mq), (1, .ref xq), (0, .ref b)]) (hi1 : i.toInt + 6 ≤ Len) (kk : ∀ (kp1 : Nat → Nat) (L1 : List Nat) (E1 : Nat → va_E) (H1 : Heap) (locs1 : List Loc) (cells1 slots1 : Nat), cells1 ≤ cells + 12 → slots1 ≤ slots + 360 → lv_I kp1 L1 E1 xq mq → tw_H D cs kp1 L1 E1 A H1 → va_S A s.heap H1 locs1 → W p l e room_1 s m #[Value.ref b] below meth c H1 locs1 cells1 slots1 (lw_Z below #[Value.ref b] s) (F0 m 1178 ls [])) : W p l e room_1 s m #[Value.ref b] below meth c H locs cells slots (lw_Z below #[Value.ref b] s) (F0 m 812 ls []) := by
  obtain ⟨hmx, hkx, hmm, hkm, g1, g2, g3, ⟨r0, r1, r2, r3, r4, r5, r6, r7, r8, r9⟩, hJ⟩ := I
  have hJ0 := hJ
  refine lv_aload_n hx hb dL_law_812 rfl (lv_at hl 2 rfl) ?_
  refine lv_aload_n hx hb dL_law_813 rfl (lv_at hl 3 rfl) ?_
  refine lv_iload_n hx hb dL_law_814 rfl (lv_at hl 0 rfl) ?_
  refine lv_iconst (v := 1) hx hb dL_law_815 (by decide) ?_
  refine lv_iadd hx hb dL_law_816 ?_
  refine lv_topi (fun zi1 ezi1 => ?_)
  have hzi1 : zi1.toInt = i.toInt + 1 := by rw [ezi1]; have : ((1 : Int32).toInt) = 1 := (by decide); have := ia_lo i; have := ia_hi i; exact (ia_add (by omega) (by omega)).trans (by omega)
  have h_816 := trivial
  refine va_sld hx hb hX hbl hbA hS (i := zi1) (vp_in_iff.mpr ⟨by omega, by omega⟩) dL_law_817 ?_
  obtain ⟨xs2, exs2⟩ : ∃ z : Int32, xs (Int32.toNatClampNeg zi1) = z := ⟨_, rfl⟩
  rw [exs2]
  refine lv_aload_n hx hb dL_law_818 rfl (lv_at hl 3 rfl) ?_
  refine lv_iload_n hx hb dL_law_819 rfl (lv_at hl 0 rfl) ?_
  refine lv_iconst (v := 2) hx hb dL_law_820 (by decide) ?_
  refine lv_iadd hx hb dL_law_821 ?_
  refine lv_topi (fun zi3 ezi3 => ?_)
  have hzi3 : zi3.toInt = i.toInt + 2 := by rw [ezi3]; have : ((2 : Int32).toInt) = 2 := (by decide); have := ia_lo i; have := ia_hi i; exact (ia_add (by omega) (by omega)).trans (by omega)
  have h_821 := trivial
  refine va_sld hx hb hX hbl hbA hS (i := zi3) (vp_in_iff.mpr ⟨by omega, by omega⟩) dL_law_822 ?_
  obtain ⟨xs4, exs4⟩ : ∃ z : Int32, xs (Int32.toNatClampNeg zi3) = z := ⟨_, rfl⟩
  rw [exs4]
  refine lv_aload_n hx hb dL_law_823 rfl (lv_at hl 3 rfl) ?_
  refine lv_iload_n hx hb dL_law_824 rfl (lv_at hl 0 rfl) ?_
  refine lv_iconst (v := 3) hx hb dL_law_825 (by decide) ?_
  refine lv_iadd hx hb dL_law_826 ?_
  refine lv_topi (fun zi5 ezi5 => ?_)
  have hzi5 : zi5.toInt = i.toInt + 3 := by rw [ezi5]; have : ((3 : Int32).toInt) = 3 := (by decide); have := ia_lo i; have := ia_hi i; exact (ia_add (by omega) (by omega)).trans (by omega)
  have h_826 := trivial
  refine va_sld hx hb hX hbl hbA hS (i := zi5) (vp_in_iff.mpr ⟨by omega, by omega⟩) dL_law_827 ?_
  obtain ⟨xs6, exs6⟩ : ∃ z : Int32, xs (Int32.toNatClampNeg zi5) = z := ⟨_, rfl⟩
  rw [exs6]
  obtain ⟨xi7, hxi7, hxi7a, hxi7b⟩ := tw_rd TH hmm hkm (by decide) (by decide) (k := 1) rfl
  obtain ⟨xi8, hxi8, hxi8a, hxi8b⟩ := tw_rd TH hmm hkm (by decide) (by decide) (k := 14) rfl
  have TH0 := TH
  have hT0 := TH.2.2
  refine tw_Vc (o := xq) (ci := 11) (n := 3) (post := (fun v kq Lq Eq => (∃ x : Int32, v = some (.int x) ∧ 0 ≤ x.toInt ∧ x.toInt ≤ 1) ∧ kp = kq ∧ L = Lq ∧ tw_fr kp L [(7, 0)] [120] E Eq)) (As := [.int xs2, .int xs4, .int xs6]) (rest := []) ⟨hx, hb, hml, hown, hB⟩ (fun sz => tX11_settle l D cs xq xs2 xs4 xs6 hmx hkx sz) cg_L_105_X11_settle rfl rfl (by decide +kernel) ⟨Nat.le_of_ble_eq_true rfl, Nat.le_of_ble_eq_true rfl⟩ hK hN TH hS hA rfl hmx hkx (by decide) rfl hl.1 rfl (Nat.le_of_ble_eq_true rfl) dL_law_828 ⟨(by show _ ≤ 600000; omega), (by show _ ≤ 7302250; omega)⟩ (fun v9 kp9 L9 E9 H locs hq9 hx9 TH hS => ?_)
  obtain ⟨⟨xc10, rfl, hxc10a, hxc10b⟩, rfl, rfl, hst9⟩ := hq9
  have hmf11 : tw_fv E9 mq 1 = .int xi7 := (hst9.1 mq 1 hmm (by rw [hkm]; decide)).trans hxi7
  have hmf12 : tw_fv E9 mq 14 = .int xi8 := (hst9.1 mq 14 hmm (by rw [hkm]; decide)).trans hxi8
  have g1 : gz_ok E9 xq := gz_ok_fr TH hst9 hmx hkx (by decide) (by decide) g1
  have g2 : ss_ok E9 xq := ss_ok_fr TH hst9 hmx hkx (by decide) (by decide) g2
  have g3 : ac_ok E9 xq := ac_ok_fr TH hst9 hmx hkx (by decide) (by decide) g3
  have r0 : rd_ok E9 mq := rd_ok_fr TH hst9 hmm hkm (by decide) (by decide) r0
  have r1 : eo_ok E9 mq := eo_ok_fr TH hst9 hmm hkm (by decide) (by decide) r1
  have r2 : ht_ok E9 mq := ht_ok_fr TH hst9 hmm hkm (by decide) (by decide) r2
  have r3 : dr_ok E9 mq := dr_ok_fr TH hst9 hmm hkm (by decide) (by decide) r3
  have r4 : ln_ok E9 mq := ln_ok_fr TH hst9 hmm hkm (by decide) (by decide) r4
  have r5 : dl_ok E9 mq := dl_ok_fr TH hst9 hmm hkm (by decide) (by decide) r5
  have r6 : fw_ok E9 mq := fw_ok_fr TH hst9 hmm hkm (by decide) (by decide) r6
  have r7 : kg_ok E9 mq := kg_ok_fr TH hst9 hmm hkm (by decide) (by decide) r7
  have r8 : sd_ok E9 mq := sd_ok_fr TH hst9 hmm hkm (by decide) (by decide) r8
  have r9 : rg_ok E9 mq := rg_ok_fr TH hst9 hmm hkm (by decide) (by decide) r9
  have hJ : lj_ok E9 xq mq := lj_ok_fr TH hst9 hmx hkx hmm hkm (by decide) (by decide) hJ
  refine W.eq (g2 := F0 m 831 ls [.int xc10]) rfl ?_
  refine lv_pop hx hb dL_law_831 rfl ?_
  refine lv_aload_n hx hb dL_law_832 rfl (lv_at hl 1 rfl) ?_
  refine lv_aload_n hx hb dL_law_833 rfl (lv_at hl 3 rfl) ?_
  refine lv_iload_n hx hb dL_law_834 rfl (lv_at hl 0 rfl) ?_
  refine lv_iconst (v := 1) hx hb dL_law_835 (by decide) ?_
  refine lv_iadd hx hb dL_law_836 ?_
  refine lv_topi (fun zi13 ezi13 => ?_)
  have hzi13 : zi13.toInt = i.toInt + 1 := by rw [ezi13]; have : ((1 : Int32).toInt) = 1 := (by decide); have := ia_lo i; have := ia_hi i; exact (ia_add (by omega) (by omega)).trans (by omega)
  have h_836 := trivial
  refine va_sld hx hb hX hbl hbA hS (i := zi13) (vp_in_iff.mpr ⟨by omega, by omega⟩) dL_law_837 ?_
  obtain ⟨xs14, exs14⟩ : ∃ z : Int32, xs (Int32.toNatClampNeg zi13) = z := ⟨_, rfl⟩
  rw [exs14]
  have qxs14 : xs2 = xs14 := by rw [← exs14, ← exs2, ia_ext (a := zi13) (b := zi1) (by omega)]
  subst qxs14
  refine lv_aload_n hx hb dL_law_838 rfl (lv_at hl 3 rfl) ?_
  refine lv_iload_n hx hb dL_law_839 rfl (lv_at hl 0 rfl) ?_
  refine lv_iconst (v := 2) hx hb dL_law_840 (by decide) ?_
  refine lv_iadd hx hb dL_law_841 ?_
  refine lv_topi (fun zi15 ezi15 => ?_)
  have hzi15 : zi15.toInt = i.toInt + 2 := by rw [ezi15]; have : ((2 : Int32).toInt) = 2 := (by decide); have := ia_lo i; have := ia_hi i; exact (ia_add (by omega) (by omega)).trans (by omega)
  have h_841 := trivial
  refine va_sld hx hb hX hbl hbA hS (i := zi15) (vp_in_iff.mpr ⟨by omega, by omega⟩) dL_law_842 ?_
  obtain ⟨xs16, exs16⟩ : ∃ z : Int32, xs (Int32.toNatClampNeg zi15) = z := ⟨_, rfl⟩
  rw [exs16]
  have qxs16 : xs4 = xs16 := by rw [← exs16, ← exs4, ia_ext (a := zi15) (b := zi3) (by omega)]
  subst qxs16
  refine lv_aload_n hx hb dL_law_843 rfl (lv_at hl 3 rfl) ?_
  refine lv_iload_n hx hb dL_law_844 rfl (lv_at hl 0 rfl) ?_
  refine lv_iconst (v := 3) hx hb dL_law_845 (by decide) ?_
  refine lv_iadd hx hb dL_law_846 ?_
  refine lv_topi (fun zi17 ezi17 => ?_)
  have hzi17 : zi17.toInt = i.toInt + 3 := by rw [ezi17]; have : ((3 : Int32).toInt) = 3 := (by decide); have := ia_lo i; have := ia_hi i; exact (ia_add (by omega) (by omega)).trans (by omega)
  have h_846 := trivial
  refine va_sld hx hb hX hbl hbA hS (i := zi17) (vp_in_iff.mpr ⟨by omega, by omega⟩) dL_law_847 ?_
  obtain ⟨xs18, exs18⟩ : ∃ z : Int32, xs (Int32.toNatClampNeg zi17) = z := ⟨_, rfl⟩
  rw [exs18]
  have qxs18 : xs6 = xs18 := by rw [← exs18, ← exs6, ia_ext (a := zi17) (b := zi5) (by omega)]
  subst qxs18
  have TH1 := TH
  have hT1 := TH.2.2
  refine tw_Vc (o := mq) (ci := 12) (n := 3) (post := (fun v kq Lq Eq => (∃ x : Int32, v = some (.int x) ∧ 0 ≤ x.toInt ∧ x.toInt ≤ 1 ∧ sd_ok Eq mq) ∧ kp = kq ∧ L = Lq ∧ tw_fr kp L [(12, 58)] [360, 361, 362] E9 Eq)) (As := [.int xs2, .int xs4, .int xs6]) (rest := []) ⟨hx, hb, hml, hown, hB⟩ (fun sz => tX12_settle l D cs mq xs2 xs4 xs6 hmm hkm r8 sz) cg_L_108_X12_settle rfl rfl (by decide +kernel) ⟨Nat.le_of_ble_eq_true rfl, Nat.le_of_ble_eq_true rfl⟩ hK hN TH hS hA rfl hmm hkm (by decide) rfl hl.1 rfl (Nat.le_of_ble_eq_true rfl) dL_law_848 ⟨(by show _ ≤ 600000; omega), (by show _ ≤ 7302250; omega)⟩ (fun v19 kp19 L19 E19 H locs hq19 hx19 TH hS => ?_)
  obtain ⟨⟨xc20, rfl, hxc20a, hxc20b, hgpxc20_0⟩, rfl, rfl, hst19⟩ := hq19
  have hmf21 : tw_fv E19 mq 1 = .int xi7 := (hst19.1 mq 1 hmm (by rw [hkm]; decide)).trans hmf11
  have hmf22 : tw_fv E19 mq 14 = .int xi8 := (hst19.1 mq 14 hmm (by rw [hkm]; decide)).trans hmf12
  have g1 : gz_ok E19 xq := gz_ok_fr TH hst19 hmx hkx (by decide) (by decide) g1
  have g2 : ss_ok E19 xq := ss_ok_fr TH hst19 hmx hkx (by decide) (by decide) g2
  have g3 : ac_ok E19 xq := ac_ok_fr TH hst19 hmx hkx (by decide) (by decide) g3
  have r0 : rd_ok E19 mq := rd_ok_fr TH hst19 hmm hkm (by decide) (by decide) r0
  have r1 : eo_ok E19 mq := eo_ok_fr TH hst19 hmm hkm (by decide) (by decide) r1
  have r2 : ht_ok E19 mq := ht_ok_fr TH hst19 hmm hkm (by decide) (by decide) r2
  have r3 : dr_ok E19 mq := dr_ok_fr TH hst19 hmm hkm (by decide) (by decide) r3
  have r4 : ln_ok E19 mq := ln_ok_fr TH hst19 hmm hkm (by decide) (by decide) r4
  have r5 : dl_ok E19 mq := dl_ok_fr TH hst19 hmm hkm (by decide) (by decide) r5
  have r6 : fw_ok E19 mq := fw_ok_fr TH hst19 hmm hkm (by decide) (by decide) r6
  have r7 : kg_ok E19 mq := kg_ok_fr TH hst19 hmm hkm (by decide) (by decide) r7
  have r9 : rg_ok E19 mq := rg_ok_fr TH hst19 hmm hkm (by decide) (by decide) r9
  have hJ : lj_ok E19 xq mq := lj_ok_fr TH hst19 hmx hkx hmm hkm (by decide) (by decide) hJ
  refine W.eq (g2 := F0 m 851 ls [.int xc20]) rfl ?_
  refine lv_pop hx hb dL_law_851 rfl ?_
  refine lv_goto (tgt := 1178) hx hb dL_law_852 (by decide) ?_
  exact kk _ _ _ _ _ _ _ (by omega) (by omega) ⟨hmx, hkx, hmm, hkm, g1, g2, g3, ⟨r0, r1, r2, r3, r4, r5, r6, r7, hgpxc20_0, r9⟩, hJ⟩ TH hS
set_option maxHeartbeats 4000000 in
set_option maxRecDepth 100000 in
theorem lop_21 {p : Program} {l : Launch} {e : Env} {s : State} {m : MethodId} {below : List Frame} {meth : Method} {c : Code} {D : va_G} {cs : Nat → ClassId} {A : Nat → Prop} {b Len : Nat} {xs : Nat → Int32} (hx : p.tables.exec = Jvm.exec) (hb : c.code = cL_law) (hr : meth.sig.returnType = ret) (hml : c.maxLocals = 4) (hB : ∀ w ∈ cx_big, w.before #[Value.ref b] s = true) (hown : s.vm.findClass "TreeMergeLaw" = some m.cls) (hlocks : meth.locks = false) (hK : va_K D vwCl (cx_TY cs) s) (hN : tw_NZ D A s s.heap) (hA : ∀ q : Nat, s.heap.size ≤ q → A q) (hA2 : ∀ q : Nat, A q → s.heap.size ≤ q) (hbA : ¬ A b) (hbl : b < s.heap.size) (hX : va_X b Len xs s s.heap) (hLen : Len ≤ 3072) {xq mq : Nat} {kp : Nat → Nat} {L : List Nat} {E : Nat → va_E} (i : Int32) (hi0 : 0 ≤ i.toInt) {cells slots : Nat} (hc : cells + 12 ≤ 600000) (hs : slots + 360 ≤ 7302250) {H : Heap} {locs : List Loc} {ls : Array Slot} (I : lv_I kp L E xq mq) (TH : tw_H D cs kp L E A H) (hS : va_S A s.heap H locs) (hl : lv_has ls 4 [(3, .int i), (2, .ref mq), (1, .ref xq), (0, .ref b)]) (hi1 : i.toInt + 6 ≤ Len) (kk : ∀ (kp1 : Nat → Nat) (L1 : List Nat) (E1 : Nat → va_E) (H1 : Heap) (locs1 : List Loc) (cells1 slots1 : Nat), cells1 ≤ cells + 12 → slots1 ≤ slots + 360 → lv_I kp1 L1 E1 xq mq → tw_H D cs kp1 L1 E1 A H1 → va_S A s.heap H1 locs1 → W p l e room_1 s m #[Value.ref b] below meth c H1 locs1 cells1 slots1 (lw_Z below #[Value.ref b] s) (F0 m 1178 ls [])) : W p l e room_1 s m #[Value.ref b] below meth c H locs cells slots (lw_Z below #[Value.ref b] s) (F0 m 855 ls []) := by
  obtain ⟨hmx, hkx, hmm, hkm, g1, g2, g3, ⟨r0, r1, r2, r3, r4, r5, r6, r7, r8, r9⟩, hJ⟩ := I
  have hJ0 := hJ
  refine lv_aload_n hx hb dL_law_855 rfl (lv_at hl 2 rfl) ?_
  obtain ⟨xi1, hxi1, hxi1a, hxi1b⟩ := tw_rd TH hmm hkm (by decide) (by decide) (k := 1) rfl
  obtain ⟨xi2, hxi2, hxi2a, hxi2b⟩ := tw_rd TH hmm hkm (by decide) (by decide) (k := 14) rfl
  have TH0 := TH
  have hT0 := TH.2.2
  refine tw_Vc (o := xq) (ci := 11) (n := 0) (post := (fun v kq Lq Eq => (∃ x : Int32, v = some (.int x)) ∧ kp = kq ∧ L = Lq ∧ tw_fr kp L [(7, 0)] [120] E Eq)) (As := []) (rest := []) ⟨hx, hb, hml, hown, hB⟩ (fun sz => tX11_unsettle l D cs xq hmx hkx sz) cg_L_109_X11_unsettle rfl rfl (by decide +kernel) ⟨Nat.le_of_ble_eq_true rfl, Nat.le_of_ble_eq_true rfl⟩ hK hN TH hS hA rfl hmx hkx (by decide) rfl hl.1 rfl (Nat.le_of_ble_eq_true rfl) dL_law_856 ⟨(by show _ ≤ 600000; omega), (by show _ ≤ 7302250; omega)⟩ (fun v3 kp3 L3 E3 H locs hq3 hx3 TH hS => ?_)
  obtain ⟨⟨xc4, rfl⟩, rfl, rfl, hst3⟩ := hq3
  have hmf5 : tw_fv E3 mq 1 = .int xi1 := (hst3.1 mq 1 hmm (by rw [hkm]; decide)).trans hxi1
  have hmf6 : tw_fv E3 mq 14 = .int xi2 := (hst3.1 mq 14 hmm (by rw [hkm]; decide)).trans hxi2
  have g1 : gz_ok E3 xq := gz_ok_fr TH hst3 hmx hkx (by decide) (by decide) g1
  have g2 : ss_ok E3 xq := ss_ok_fr TH hst3 hmx hkx (by decide) (by decide) g2
  have g3 : ac_ok E3 xq := ac_ok_fr TH hst3 hmx hkx (by decide) (by decide) g3
  have r0 : rd_ok E3 mq := rd_ok_fr TH hst3 hmm hkm (by decide) (by decide) r0
  have r1 : eo_ok E3 mq := eo_ok_fr TH hst3 hmm hkm (by decide) (by decide) r1
  have r2 : ht_ok E3 mq := ht_ok_fr TH hst3 hmm hkm (by decide) (by decide) r2
  have r3 : dr_ok E3 mq := dr_ok_fr TH hst3 hmm hkm (by decide) (by decide) r3
  have r4 : ln_ok E3 mq := ln_ok_fr TH hst3 hmm hkm (by decide) (by decide) r4
  have r5 : dl_ok E3 mq := dl_ok_fr TH hst3 hmm hkm (by decide) (by decide) r5
  have r6 : fw_ok E3 mq := fw_ok_fr TH hst3 hmm hkm (by decide) (by decide) r6
  have r7 : kg_ok E3 mq := kg_ok_fr TH hst3 hmm hkm (by decide) (by decide) r7
  have r8 : sd_ok E3 mq := sd_ok_fr TH hst3 hmm hkm (by decide) (by decide) r8
  have r9 : rg_ok E3 mq := rg_ok_fr TH hst3 hmm hkm (by decide) (by decide) r9
  have hJ : lj_ok E3 xq mq := lj_ok_fr TH hst3 hmx hkx hmm hkm (by decide) (by decide) hJ
  refine W.eq (g2 := F0 m 859 ls [.int xc4]) rfl ?_
  refine lv_pop hx hb dL_law_859 rfl ?_
  refine lv_aload_n hx hb dL_law_860 rfl (lv_at hl 1 rfl) ?_
  have TH1 := TH
  have hT1 := TH.2.2
  refine tw_Vc (o := mq) (ci := 12) (n := 0) (post := (fun v kq Lq Eq => (∃ x : Int32, v = some (.int x) ∧ sd_ok Eq mq) ∧ kp = kq ∧ L = Lq ∧ tw_fr kp L [(12, 58)] [] E3 Eq)) (As := []) (rest := []) ⟨hx, hb, hml, hown, hB⟩ (fun sz => tX12_unsettle_vG l D cs mq hmm hkm sz) cg_L_112_X12_unsettle rfl rfl (by decide +kernel) ⟨Nat.le_of_ble_eq_true rfl, Nat.le_of_ble_eq_true rfl⟩ hK hN TH hS hA rfl hmm hkm (by decide) rfl hl.1 rfl (Nat.le_of_ble_eq_true rfl) dL_law_861 ⟨(by show _ ≤ 600000; omega), (by show _ ≤ 7302250; omega)⟩ (fun v7 kp7 L7 E7 H locs hq7 hx7 TH hS => ?_)
  obtain ⟨⟨xc8, rfl, hgpxc8_0⟩, rfl, rfl, hst7⟩ := hq7
  have hmf9 : tw_fv E7 mq 1 = .int xi1 := (hst7.1 mq 1 hmm (by rw [hkm]; decide)).trans hmf5
  have hmf10 : tw_fv E7 mq 14 = .int xi2 := (hst7.1 mq 14 hmm (by rw [hkm]; decide)).trans hmf6
  have g1 : gz_ok E7 xq := gz_ok_fr TH hst7 hmx hkx (by decide) (by decide) g1
  have g2 : ss_ok E7 xq := ss_ok_fr TH hst7 hmx hkx (by decide) (by decide) g2
  have g3 : ac_ok E7 xq := ac_ok_fr TH hst7 hmx hkx (by decide) (by decide) g3
  have r0 : rd_ok E7 mq := rd_ok_fr TH hst7 hmm hkm (by decide) (by decide) r0
  have r1 : eo_ok E7 mq := eo_ok_fr TH hst7 hmm hkm (by decide) (by decide) r1
  have r2 : ht_ok E7 mq := ht_ok_fr TH hst7 hmm hkm (by decide) (by decide) r2
  have r3 : dr_ok E7 mq := dr_ok_fr TH hst7 hmm hkm (by decide) (by decide) r3
  have r4 : ln_ok E7 mq := ln_ok_fr TH hst7 hmm hkm (by decide) (by decide) r4
  have r5 : dl_ok E7 mq := dl_ok_fr TH hst7 hmm hkm (by decide) (by decide) r5
  have r6 : fw_ok E7 mq := fw_ok_fr TH hst7 hmm hkm (by decide) (by decide) r6
  have r7 : kg_ok E7 mq := kg_ok_fr TH hst7 hmm hkm (by decide) (by decide) r7
  have r9 : rg_ok E7 mq := rg_ok_fr TH hst7 hmm hkm (by decide) (by decide) r9
  have hJ : lj_ok E7 xq mq := lj_ok_fr TH hst7 hmx hkx hmm hkm (by decide) (by decide) hJ
  refine W.eq (g2 := F0 m 864 ls [.int xc8]) rfl ?_
  refine lv_pop hx hb dL_law_864 rfl ?_
  refine lv_goto (tgt := 1178) hx hb dL_law_865 (by decide) ?_
  exact kk _ _ _ _ _ _ _ (by omega) (by omega) ⟨hmx, hkx, hmm, hkm, g1, g2, g3, ⟨r0, r1, r2, r3, r4, r5, r6, r7, hgpxc8_0, r9⟩, hJ⟩ TH hS
set_option maxHeartbeats 4000000 in
set_option maxRecDepth 100000 in
theorem lop_22 {p : Program} {l : Launch} {e : Env} {s : State} {m : MethodId} {below : List Frame} {meth : Method} {c : Code} {D : va_G} {cs : Nat → ClassId} {A : Nat → Prop} {b Len : Nat} {xs : Nat → Int32} (hx : p.tables.exec = Jvm.exec) (hb : c.code = cL_law) (hr : meth.sig.returnType = ret) (hml : c.maxLocals = 4) (hB : ∀ w ∈ cx_big, w.before #[Value.ref b] s = true) (hown : s.vm.findClass "TreeMergeLaw" = some m.cls) (hlocks : meth.locks = false) (hK : va_K D vwCl (cx_TY cs) s) (hN : tw_NZ D A s s.heap) (hA : ∀ q : Nat, s.heap.size ≤ q → A q) (hA2 : ∀ q : Nat, A q → s.heap.size ≤ q) (hbA : ¬ A b) (hbl : b < s.heap.size) (hX : va_X b Len xs s s.heap) (hLen : Len ≤ 3072) {xq mq : Nat} {kp : Nat → Nat} {L : List Nat} {E : Nat → va_E} (i : Int32) (hi0 : 0 ≤ i.toInt) {cells slots : Nat} (hc : cells + 12 ≤ 600000) (hs : slots + 360 ≤ 7302250) {H : Heap} {locs : List Loc} {ls : Array Slot} (I : lv_I kp L E xq mq) (TH : tw_H D cs kp L E A H) (hS : va_S A s.heap H locs) (hl : lv_has ls 4 [(3, .int i), (2, .ref mq), (1, .ref xq), (0, .ref b)]) (hi1 : i.toInt + 6 ≤ Len) (kk : ∀ (kp1 : Nat → Nat) (L1 : List Nat) (E1 : Nat → va_E) (H1 : Heap) (locs1 : List Loc) (cells1 slots1 : Nat), cells1 ≤ cells + 12 → slots1 ≤ slots + 360 → lv_I kp1 L1 E1 xq mq → tw_H D cs kp1 L1 E1 A H1 → va_S A s.heap H1 locs1 → W p l e room_1 s m #[Value.ref b] below meth c H1 locs1 cells1 slots1 (lw_Z below #[Value.ref b] s) (F0 m 1178 ls [])) : W p l e room_1 s m #[Value.ref b] below meth c H locs cells slots (lw_Z below #[Value.ref b] s) (F0 m 868 ls []) := by
  obtain ⟨hmx, hkx, hmm, hkm, g1, g2, g3, ⟨r0, r1, r2, r3, r4, r5, r6, r7, r8, r9⟩, hJ⟩ := I
  have hJ0 := hJ
  refine lv_aload_n hx hb dL_law_868 rfl (lv_at hl 2 rfl) ?_
  refine lv_aload_n hx hb dL_law_869 rfl (lv_at hl 3 rfl) ?_
  refine lv_iload_n hx hb dL_law_870 rfl (lv_at hl 0 rfl) ?_
  refine lv_iconst (v := 1) hx hb dL_law_871 (by decide) ?_
  refine lv_iadd hx hb dL_law_872 ?_
  refine lv_topi (fun zi1 ezi1 => ?_)
  have hzi1 : zi1.toInt = i.toInt + 1 := by rw [ezi1]; have : ((1 : Int32).toInt) = 1 := (by decide); have := ia_lo i; have := ia_hi i; exact (ia_add (by omega) (by omega)).trans (by omega)
  have h_872 := trivial
  refine va_sld hx hb hX hbl hbA hS (i := zi1) (vp_in_iff.mpr ⟨by omega, by omega⟩) dL_law_873 ?_
  obtain ⟨xs2, exs2⟩ : ∃ z : Int32, xs (Int32.toNatClampNeg zi1) = z := ⟨_, rfl⟩
  rw [exs2]
  refine lv_aload_n hx hb dL_law_874 rfl (lv_at hl 3 rfl) ?_
  refine lv_iload_n hx hb dL_law_875 rfl (lv_at hl 0 rfl) ?_
  refine lv_iconst (v := 2) hx hb dL_law_876 (by decide) ?_
  refine lv_iadd hx hb dL_law_877 ?_
  refine lv_topi (fun zi3 ezi3 => ?_)
  have hzi3 : zi3.toInt = i.toInt + 2 := by rw [ezi3]; have : ((2 : Int32).toInt) = 2 := (by decide); have := ia_lo i; have := ia_hi i; exact (ia_add (by omega) (by omega)).trans (by omega)
  have h_877 := trivial
  refine va_sld hx hb hX hbl hbA hS (i := zi3) (vp_in_iff.mpr ⟨by omega, by omega⟩) dL_law_878 ?_
  obtain ⟨xs4, exs4⟩ : ∃ z : Int32, xs (Int32.toNatClampNeg zi3) = z := ⟨_, rfl⟩
  rw [exs4]
  obtain ⟨xi5, hxi5, hxi5a, hxi5b⟩ := tw_rd TH hmm hkm (by decide) (by decide) (k := 1) rfl
  obtain ⟨xi6, hxi6, hxi6a, hxi6b⟩ := tw_rd TH hmm hkm (by decide) (by decide) (k := 14) rfl
  have TH0 := TH
  have hT0 := TH.2.2
  refine tw_Vc (o := xq) (ci := 11) (n := 2) (post := (fun v kq Lq Eq => (∃ x : Int32, v = some (.int x)) ∧ kp = kq ∧ L = Lq ∧ E = Eq)) (As := [.int xs2, .int xs4]) (rest := []) ⟨hx, hb, hml, hown, hB⟩ (fun sz => tX11_node l D cs xq xs2 xs4 hmx hkx sz) cg_L_113_X11_node rfl rfl (by decide +kernel) ⟨Nat.le_of_ble_eq_true rfl, Nat.le_of_ble_eq_true rfl⟩ hK hN TH hS hA rfl hmx hkx (by decide) rfl hl.1 rfl (Nat.le_of_ble_eq_true rfl) dL_law_879 ⟨(by show _ ≤ 600000; omega), (by show _ ≤ 7302250; omega)⟩ (fun v7 kp7 L7 E7 H locs hq7 hx7 TH hS => ?_)
  obtain ⟨⟨xc8, rfl⟩, rfl, rfl, rfl⟩ := hq7
  refine W.eq (g2 := F0 m 882 ls [.int xc8]) rfl ?_
  refine lv_pop hx hb dL_law_882 rfl ?_
  refine lv_aload_n hx hb dL_law_883 rfl (lv_at hl 1 rfl) ?_
  refine lv_aload_n hx hb dL_law_884 rfl (lv_at hl 3 rfl) ?_
  refine lv_iload_n hx hb dL_law_885 rfl (lv_at hl 0 rfl) ?_
  refine lv_iconst (v := 1) hx hb dL_law_886 (by decide) ?_
  refine lv_iadd hx hb dL_law_887 ?_
  refine lv_topi (fun zi9 ezi9 => ?_)
  have hzi9 : zi9.toInt = i.toInt + 1 := by rw [ezi9]; have : ((1 : Int32).toInt) = 1 := (by decide); have := ia_lo i; have := ia_hi i; exact (ia_add (by omega) (by omega)).trans (by omega)
  have h_887 := trivial
  refine va_sld hx hb hX hbl hbA hS (i := zi9) (vp_in_iff.mpr ⟨by omega, by omega⟩) dL_law_888 ?_
  obtain ⟨xs10, exs10⟩ : ∃ z : Int32, xs (Int32.toNatClampNeg zi9) = z := ⟨_, rfl⟩
  rw [exs10]
  have qxs10 : xs2 = xs10 := by rw [← exs10, ← exs2, ia_ext (a := zi9) (b := zi1) (by omega)]
  subst qxs10
  refine lv_aload_n hx hb dL_law_889 rfl (lv_at hl 3 rfl) ?_
  refine lv_iload_n hx hb dL_law_890 rfl (lv_at hl 0 rfl) ?_
  refine lv_iconst (v := 2) hx hb dL_law_891 (by decide) ?_
  refine lv_iadd hx hb dL_law_892 ?_
  refine lv_topi (fun zi11 ezi11 => ?_)
  have hzi11 : zi11.toInt = i.toInt + 2 := by rw [ezi11]; have : ((2 : Int32).toInt) = 2 := (by decide); have := ia_lo i; have := ia_hi i; exact (ia_add (by omega) (by omega)).trans (by omega)
  have h_892 := trivial
  refine va_sld hx hb hX hbl hbA hS (i := zi11) (vp_in_iff.mpr ⟨by omega, by omega⟩) dL_law_893 ?_
  obtain ⟨xs12, exs12⟩ : ∃ z : Int32, xs (Int32.toNatClampNeg zi11) = z := ⟨_, rfl⟩
  rw [exs12]
  have qxs12 : xs4 = xs12 := by rw [← exs12, ← exs4, ia_ext (a := zi11) (b := zi3) (by omega)]
  subst qxs12
  have TH1 := TH
  have hT1 := TH.2.2
  refine tw_Vc (o := mq) (ci := 12) (n := 2) (post := (fun v kq Lq Eq => (∃ x : Int32, v = some (.int x)) ∧ kp = kq ∧ L = Lq ∧ E = Eq)) (As := [.int xs2, .int xs4]) (rest := []) ⟨hx, hb, hml, hown, hB⟩ (fun sz => tX12_node l D cs mq xs2 xs4 hmm hkm r1 sz) cg_L_116_X12_node rfl rfl (by decide +kernel) ⟨Nat.le_of_ble_eq_true rfl, Nat.le_of_ble_eq_true rfl⟩ hK hN TH hS hA rfl hmm hkm (by decide) rfl hl.1 rfl (Nat.le_of_ble_eq_true rfl) dL_law_894 ⟨(by show _ ≤ 600000; omega), (by show _ ≤ 7302250; omega)⟩ (fun v13 kp13 L13 E13 H locs hq13 hx13 TH hS => ?_)
  obtain ⟨⟨xc14, rfl⟩, rfl, rfl, rfl⟩ := hq13
  refine W.eq (g2 := F0 m 897 ls [.int xc14]) rfl ?_
  refine lv_pop hx hb dL_law_897 rfl ?_
  refine lv_goto (tgt := 1178) hx hb dL_law_898 (by decide) ?_
  exact kk _ _ _ _ _ _ _ (by omega) (by omega) ⟨hmx, hkx, hmm, hkm, g1, g2, g3, ⟨r0, r1, r2, r3, r4, r5, r6, r7, r8, r9⟩, hJ⟩ TH hS
set_option maxHeartbeats 4000000 in
set_option maxRecDepth 100000 in
theorem lop_23 {p : Program} {l : Launch} {e : Env} {s : State} {m : MethodId} {below : List Frame} {meth : Method} {c : Code} {D : va_G} {cs : Nat → ClassId} {A : Nat → Prop} {b Len : Nat} {xs : Nat → Int32} (hx : p.tables.exec = Jvm.exec) (hb : c.code = cL_law) (hr : meth.sig.returnType = ret) (hml : c.maxLocals = 4) (hB : ∀ w ∈ cx_big, w.before #[Value.ref b] s = true) (hown : s.vm.findClass "TreeMergeLaw" = some m.cls) (hlocks : meth.locks = false) (hK : va_K D vwCl (cx_TY cs) s) (hN : tw_NZ D A s s.heap) (hA : ∀ q : Nat, s.heap.size ≤ q → A q) (hA2 : ∀ q : Nat, A q → s.heap.size ≤ q) (hbA : ¬ A b) (hbl : b < s.heap.size) (hX : va_X b Len xs s s.heap) (hLen : Len ≤ 3072) {xq mq : Nat} {kp : Nat → Nat} {L : List Nat} {E : Nat → va_E} (i : Int32) (hi0 : 0 ≤ i.toInt) {cells slots : Nat} (hc : cells + 12 ≤ 600000) (hs : slots + 360 ≤ 7302250) {H : Heap} {locs : List Loc} {ls : Array Slot} (I : lv_I kp L E xq mq) (TH : tw_H D cs kp L E A H) (hS : va_S A s.heap H locs) (hl : lv_has ls 4 [(3, .int i), (2, .ref mq), (1, .ref xq), (0, .ref b)]) (hi1 : i.toInt + 6 ≤ Len) (kk : ∀ (kp1 : Nat → Nat) (L1 : List Nat) (E1 : Nat → va_E) (H1 : Heap) (locs1 : List Loc) (cells1 slots1 : Nat), cells1 ≤ cells + 12 → slots1 ≤ slots + 360 → lv_I kp1 L1 E1 xq mq → tw_H D cs kp1 L1 E1 A H1 → va_S A s.heap H1 locs1 → W p l e room_1 s m #[Value.ref b] below meth c H1 locs1 cells1 slots1 (lw_Z below #[Value.ref b] s) (F0 m 1178 ls [])) : W p l e room_1 s m #[Value.ref b] below meth c H locs cells slots (lw_Z below #[Value.ref b] s) (F0 m 901 ls []) := by
  obtain ⟨hmx, hkx, hmm, hkm, g1, g2, g3, ⟨r0, r1, r2, r3, r4, r5, r6, r7, r8, r9⟩, hJ⟩ := I
  have hJ0 := hJ
  refine lv_aload_n hx hb dL_law_901 rfl (lv_at hl 2 rfl) ?_
  refine lv_aload_n hx hb dL_law_902 rfl (lv_at hl 3 rfl) ?_
  refine lv_iload_n hx hb dL_law_903 rfl (lv_at hl 0 rfl) ?_
  refine lv_iconst (v := 1) hx hb dL_law_904 (by decide) ?_
  refine lv_iadd hx hb dL_law_905 ?_
  refine lv_topi (fun zi1 ezi1 => ?_)
  have hzi1 : zi1.toInt = i.toInt + 1 := by rw [ezi1]; have : ((1 : Int32).toInt) = 1 := (by decide); have := ia_lo i; have := ia_hi i; exact (ia_add (by omega) (by omega)).trans (by omega)
  have h_905 := trivial
  refine va_sld hx hb hX hbl hbA hS (i := zi1) (vp_in_iff.mpr ⟨by omega, by omega⟩) dL_law_906 ?_
  obtain ⟨xs2, exs2⟩ : ∃ z : Int32, xs (Int32.toNatClampNeg zi1) = z := ⟨_, rfl⟩
  rw [exs2]
  refine lv_aload_n hx hb dL_law_907 rfl (lv_at hl 3 rfl) ?_
  refine lv_iload_n hx hb dL_law_908 rfl (lv_at hl 0 rfl) ?_
  refine lv_iconst (v := 2) hx hb dL_law_909 (by decide) ?_
  refine lv_iadd hx hb dL_law_910 ?_
  refine lv_topi (fun zi3 ezi3 => ?_)
  have hzi3 : zi3.toInt = i.toInt + 2 := by rw [ezi3]; have : ((2 : Int32).toInt) = 2 := (by decide); have := ia_lo i; have := ia_hi i; exact (ia_add (by omega) (by omega)).trans (by omega)
  have h_910 := trivial
  refine va_sld hx hb hX hbl hbA hS (i := zi3) (vp_in_iff.mpr ⟨by omega, by omega⟩) dL_law_911 ?_
  obtain ⟨xs4, exs4⟩ : ∃ z : Int32, xs (Int32.toNatClampNeg zi3) = z := ⟨_, rfl⟩
  rw [exs4]
  refine lv_aload_n hx hb dL_law_912 rfl (lv_at hl 3 rfl) ?_
  refine lv_iload_n hx hb dL_law_913 rfl (lv_at hl 0 rfl) ?_
  refine lv_iconst (v := 3) hx hb dL_law_914 (by decide) ?_
  refine lv_iadd hx hb dL_law_915 ?_
  refine lv_topi (fun zi5 ezi5 => ?_)
  have hzi5 : zi5.toInt = i.toInt + 3 := by rw [ezi5]; have : ((3 : Int32).toInt) = 3 := (by decide); have := ia_lo i; have := ia_hi i; exact (ia_add (by omega) (by omega)).trans (by omega)
  have h_915 := trivial
  refine va_sld hx hb hX hbl hbA hS (i := zi5) (vp_in_iff.mpr ⟨by omega, by omega⟩) dL_law_916 ?_
  obtain ⟨xs6, exs6⟩ : ∃ z : Int32, xs (Int32.toNatClampNeg zi5) = z := ⟨_, rfl⟩
  rw [exs6]
  obtain ⟨xi7, hxi7, hxi7a, hxi7b⟩ := tw_rd TH hmm hkm (by decide) (by decide) (k := 1) rfl
  obtain ⟨xi8, hxi8, hxi8a, hxi8b⟩ := tw_rd TH hmm hkm (by decide) (by decide) (k := 14) rfl
  have TH0 := TH
  have hT0 := TH.2.2
  refine tw_Vc (o := xq) (ci := 11) (n := 3) (post := (fun v kq Lq Eq => (∃ x : Int32, v = some (.int x)) ∧ kp = kq ∧ L = Lq ∧ tw_fr kp L [] [182] E Eq)) (As := [.int xs2, .int xs4, .int xs6]) (rest := []) ⟨hx, hb, hml, hown, hB⟩ (fun sz => tX11_of l D cs xq xs2 xs4 xs6 hmx hkx sz) cg_L_117_X11_of rfl rfl (by decide +kernel) ⟨Nat.le_of_ble_eq_true rfl, Nat.le_of_ble_eq_true rfl⟩ hK hN TH hS hA rfl hmx hkx (by decide) rfl hl.1 rfl (Nat.le_of_ble_eq_true rfl) dL_law_917 ⟨(by show _ ≤ 600000; omega), (by show _ ≤ 7302250; omega)⟩ (fun v9 kp9 L9 E9 H locs hq9 hx9 TH hS => ?_)
  obtain ⟨⟨xc10, rfl⟩, rfl, rfl, hst9⟩ := hq9
  have hmf11 : tw_fv E9 mq 1 = .int xi7 := (hst9.1 mq 1 hmm (by rw [hkm]; decide)).trans hxi7
  have hmf12 : tw_fv E9 mq 14 = .int xi8 := (hst9.1 mq 14 hmm (by rw [hkm]; decide)).trans hxi8
  have g1 : gz_ok E9 xq := gz_ok_fr TH hst9 hmx hkx (by decide) (by decide) g1
  have g2 : ss_ok E9 xq := ss_ok_fr TH hst9 hmx hkx (by decide) (by decide) g2
  have g3 : ac_ok E9 xq := ac_ok_fr TH hst9 hmx hkx (by decide) (by decide) g3
  have r0 : rd_ok E9 mq := rd_ok_fr TH hst9 hmm hkm (by decide) (by decide) r0
  have r1 : eo_ok E9 mq := eo_ok_fr TH hst9 hmm hkm (by decide) (by decide) r1
  have r2 : ht_ok E9 mq := ht_ok_fr TH hst9 hmm hkm (by decide) (by decide) r2
  have r3 : dr_ok E9 mq := dr_ok_fr TH hst9 hmm hkm (by decide) (by decide) r3
  have r4 : ln_ok E9 mq := ln_ok_fr TH hst9 hmm hkm (by decide) (by decide) r4
  have r5 : dl_ok E9 mq := dl_ok_fr TH hst9 hmm hkm (by decide) (by decide) r5
  have r6 : fw_ok E9 mq := fw_ok_fr TH hst9 hmm hkm (by decide) (by decide) r6
  have r7 : kg_ok E9 mq := kg_ok_fr TH hst9 hmm hkm (by decide) (by decide) r7
  have r8 : sd_ok E9 mq := sd_ok_fr TH hst9 hmm hkm (by decide) (by decide) r8
  have r9 : rg_ok E9 mq := rg_ok_fr TH hst9 hmm hkm (by decide) (by decide) r9
  have hJ : lj_ok E9 xq mq := lj_ok_fr TH hst9 hmx hkx hmm hkm (by decide) (by decide) hJ
  refine W.eq (g2 := F0 m 920 ls [.int xc10]) rfl ?_
  refine lv_pop hx hb dL_law_920 rfl ?_
  refine lv_aload_n hx hb dL_law_921 rfl (lv_at hl 1 rfl) ?_
  refine lv_aload_n hx hb dL_law_922 rfl (lv_at hl 3 rfl) ?_
  refine lv_iload_n hx hb dL_law_923 rfl (lv_at hl 0 rfl) ?_
  refine lv_iconst (v := 1) hx hb dL_law_924 (by decide) ?_
  refine lv_iadd hx hb dL_law_925 ?_
  refine lv_topi (fun zi13 ezi13 => ?_)
  have hzi13 : zi13.toInt = i.toInt + 1 := by rw [ezi13]; have : ((1 : Int32).toInt) = 1 := (by decide); have := ia_lo i; have := ia_hi i; exact (ia_add (by omega) (by omega)).trans (by omega)
  have h_925 := trivial
  refine va_sld hx hb hX hbl hbA hS (i := zi13) (vp_in_iff.mpr ⟨by omega, by omega⟩) dL_law_926 ?_
  obtain ⟨xs14, exs14⟩ : ∃ z : Int32, xs (Int32.toNatClampNeg zi13) = z := ⟨_, rfl⟩
  rw [exs14]
  have qxs14 : xs2 = xs14 := by rw [← exs14, ← exs2, ia_ext (a := zi13) (b := zi1) (by omega)]
  subst qxs14
  refine lv_aload_n hx hb dL_law_927 rfl (lv_at hl 3 rfl) ?_
  refine lv_iload_n hx hb dL_law_928 rfl (lv_at hl 0 rfl) ?_
  refine lv_iconst (v := 2) hx hb dL_law_929 (by decide) ?_
  refine lv_iadd hx hb dL_law_930 ?_
  refine lv_topi (fun zi15 ezi15 => ?_)
  have hzi15 : zi15.toInt = i.toInt + 2 := by rw [ezi15]; have : ((2 : Int32).toInt) = 2 := (by decide); have := ia_lo i; have := ia_hi i; exact (ia_add (by omega) (by omega)).trans (by omega)
  have h_930 := trivial
  refine va_sld hx hb hX hbl hbA hS (i := zi15) (vp_in_iff.mpr ⟨by omega, by omega⟩) dL_law_931 ?_
  obtain ⟨xs16, exs16⟩ : ∃ z : Int32, xs (Int32.toNatClampNeg zi15) = z := ⟨_, rfl⟩
  rw [exs16]
  have qxs16 : xs4 = xs16 := by rw [← exs16, ← exs4, ia_ext (a := zi15) (b := zi3) (by omega)]
  subst qxs16
  refine lv_aload_n hx hb dL_law_932 rfl (lv_at hl 3 rfl) ?_
  refine lv_iload_n hx hb dL_law_933 rfl (lv_at hl 0 rfl) ?_
  refine lv_iconst (v := 3) hx hb dL_law_934 (by decide) ?_
  refine lv_iadd hx hb dL_law_935 ?_
  refine lv_topi (fun zi17 ezi17 => ?_)
  have hzi17 : zi17.toInt = i.toInt + 3 := by rw [ezi17]; have : ((3 : Int32).toInt) = 3 := (by decide); have := ia_lo i; have := ia_hi i; exact (ia_add (by omega) (by omega)).trans (by omega)
  have h_935 := trivial
  refine va_sld hx hb hX hbl hbA hS (i := zi17) (vp_in_iff.mpr ⟨by omega, by omega⟩) dL_law_936 ?_
  obtain ⟨xs18, exs18⟩ : ∃ z : Int32, xs (Int32.toNatClampNeg zi17) = z := ⟨_, rfl⟩
  rw [exs18]
  have qxs18 : xs6 = xs18 := by rw [← exs18, ← exs6, ia_ext (a := zi17) (b := zi5) (by omega)]
  subst qxs18
  have TH1 := TH
  have hT1 := TH.2.2
  refine tw_Vc (o := mq) (ci := 12) (n := 3) (post := (fun v kq Lq Eq => (∃ x : Int32, v = some (.int x)) ∧ kp = kq ∧ L = Lq ∧ E9 = Eq)) (As := [.int xs2, .int xs4, .int xs6]) (rest := []) ⟨hx, hb, hml, hown, hB⟩ (fun sz => tX12_of l D cs mq xs2 xs4 xs6 hmm hkm r1 r4 r3 sz) cg_L_121_X12_of rfl rfl (by decide +kernel) ⟨Nat.le_of_ble_eq_true rfl, Nat.le_of_ble_eq_true rfl⟩ hK hN TH hS hA rfl hmm hkm (by decide) rfl hl.1 rfl (Nat.le_of_ble_eq_true rfl) dL_law_937 ⟨(by show _ ≤ 600000; omega), (by show _ ≤ 7302250; omega)⟩ (fun v19 kp19 L19 E19 H locs hq19 hx19 TH hS => ?_)
  obtain ⟨⟨xc20, rfl⟩, rfl, rfl, rfl⟩ := hq19
  refine W.eq (g2 := F0 m 940 ls [.int xc20]) rfl ?_
  refine lv_pop hx hb dL_law_940 rfl ?_
  refine lv_goto (tgt := 1178) hx hb dL_law_941 (by decide) ?_
  exact kk _ _ _ _ _ _ _ (by omega) (by omega) ⟨hmx, hkx, hmm, hkm, g1, g2, g3, ⟨r0, r1, r2, r3, r4, r5, r6, r7, r8, r9⟩, hJ⟩ TH hS
set_option maxHeartbeats 4000000 in
set_option maxRecDepth 100000 in
theorem lop_24 {p : Program} {l : Launch} {e : Env} {s : State} {m : MethodId} {below : List Frame} {meth : Method} {c : Code} {D : va_G} {cs : Nat → ClassId} {A : Nat → Prop} {b Len : Nat} {xs : Nat → Int32} (hx : p.tables.exec = Jvm.exec) (hb : c.code = cL_law) (hr : meth.sig.returnType = ret) (hml : c.maxLocals = 4) (hB : ∀ w ∈ cx_big, w.before #[Value.ref b] s = true) (hown : s.vm.findClass "TreeMergeLaw" = some m.cls) (hlocks : meth.locks = false) (hK : va_K D vwCl (cx_TY cs) s) (hN : tw_NZ D A s s.heap) (hA : ∀ q : Nat, s.heap.size ≤ q → A q) (hA2 : ∀ q : Nat, A q → s.heap.size ≤ q) (hbA : ¬ A b) (hbl : b < s.heap.size) (hX : va_X b Len xs s s.heap) (hLen : Len ≤ 3072) {xq mq : Nat} {kp : Nat → Nat} {L : List Nat} {E : Nat → va_E} (i : Int32) (hi0 : 0 ≤ i.toInt) {cells slots : Nat} (hc : cells + 12 ≤ 600000) (hs : slots + 360 ≤ 7302250) {H : Heap} {locs : List Loc} {ls : Array Slot} (I : lv_I kp L E xq mq) (TH : tw_H D cs kp L E A H) (hS : va_S A s.heap H locs) (hl : lv_has ls 4 [(3, .int i), (2, .ref mq), (1, .ref xq), (0, .ref b)]) (hi1 : i.toInt + 6 ≤ Len) (kk : ∀ (kp1 : Nat → Nat) (L1 : List Nat) (E1 : Nat → va_E) (H1 : Heap) (locs1 : List Loc) (cells1 slots1 : Nat), cells1 ≤ cells + 12 → slots1 ≤ slots + 360 → lv_I kp1 L1 E1 xq mq → tw_H D cs kp1 L1 E1 A H1 → va_S A s.heap H1 locs1 → W p l e room_1 s m #[Value.ref b] below meth c H1 locs1 cells1 slots1 (lw_Z below #[Value.ref b] s) (F0 m 1178 ls [])) : W p l e room_1 s m #[Value.ref b] below meth c H locs cells slots (lw_Z below #[Value.ref b] s) (F0 m 944 ls []) := by
  obtain ⟨hmx, hkx, hmm, hkm, g1, g2, g3, ⟨r0, r1, r2, r3, r4, r5, r6, r7, r8, r9⟩, hJ⟩ := I
  have hJ0 := hJ
  refine lv_aload_n hx hb dL_law_944 rfl (lv_at hl 2 rfl) ?_
  refine lv_aload_n hx hb dL_law_945 rfl (lv_at hl 3 rfl) ?_
  refine lv_iload_n hx hb dL_law_946 rfl (lv_at hl 0 rfl) ?_
  refine lv_iconst (v := 1) hx hb dL_law_947 (by decide) ?_
  refine lv_iadd hx hb dL_law_948 ?_
  refine lv_topi (fun zi1 ezi1 => ?_)
  have hzi1 : zi1.toInt = i.toInt + 1 := by rw [ezi1]; have : ((1 : Int32).toInt) = 1 := (by decide); have := ia_lo i; have := ia_hi i; exact (ia_add (by omega) (by omega)).trans (by omega)
  have h_948 := trivial
  refine va_sld hx hb hX hbl hbA hS (i := zi1) (vp_in_iff.mpr ⟨by omega, by omega⟩) dL_law_949 ?_
  obtain ⟨xs2, exs2⟩ : ∃ z : Int32, xs (Int32.toNatClampNeg zi1) = z := ⟨_, rfl⟩
  rw [exs2]
  refine lv_aload_n hx hb dL_law_950 rfl (lv_at hl 3 rfl) ?_
  refine lv_iload_n hx hb dL_law_951 rfl (lv_at hl 0 rfl) ?_
  refine lv_iconst (v := 2) hx hb dL_law_952 (by decide) ?_
  refine lv_iadd hx hb dL_law_953 ?_
  refine lv_topi (fun zi3 ezi3 => ?_)
  have hzi3 : zi3.toInt = i.toInt + 2 := by rw [ezi3]; have : ((2 : Int32).toInt) = 2 := (by decide); have := ia_lo i; have := ia_hi i; exact (ia_add (by omega) (by omega)).trans (by omega)
  have h_953 := trivial
  refine va_sld hx hb hX hbl hbA hS (i := zi3) (vp_in_iff.mpr ⟨by omega, by omega⟩) dL_law_954 ?_
  obtain ⟨xs4, exs4⟩ : ∃ z : Int32, xs (Int32.toNatClampNeg zi3) = z := ⟨_, rfl⟩
  rw [exs4]
  obtain ⟨xi5, hxi5, hxi5a, hxi5b⟩ := tw_rd TH hmm hkm (by decide) (by decide) (k := 1) rfl
  obtain ⟨xi6, hxi6, hxi6a, hxi6b⟩ := tw_rd TH hmm hkm (by decide) (by decide) (k := 14) rfl
  have TH0 := TH
  have hT0 := TH.2.2
  refine tw_Vc (o := xq) (ci := 11) (n := 2) (post := (fun v kq Lq Eq => (∃ x : Int64, v = some (.long x)) ∧ kp = kq ∧ L = Lq ∧ E = Eq)) (As := [.int xs2, .int xs4]) (rest := []) ⟨hx, hb, hml, hown, hB⟩ (fun sz => tX11_word l D cs xq xs2 xs4 hmx hkx sz) cg_L_122_X11_word rfl rfl (by decide +kernel) ⟨Nat.le_of_ble_eq_true rfl, Nat.le_of_ble_eq_true rfl⟩ hK hN TH hS hA rfl hmx hkx (by decide) rfl hl.1 rfl (Nat.le_of_ble_eq_true rfl) dL_law_955 ⟨(by show _ ≤ 600000; omega), (by show _ ≤ 7302250; omega)⟩ (fun v7 kp7 L7 E7 H locs hq7 hx7 TH hS => ?_)
  obtain ⟨⟨xc8, rfl⟩, rfl, rfl, rfl⟩ := hq7
  refine W.eq (g2 := F0 m 958 ls [.long xc8]) rfl ?_
  refine lv_pop2_2 hx hb dL_law_958 rfl ?_
  refine lv_aload_n hx hb dL_law_959 rfl (lv_at hl 1 rfl) ?_
  refine lv_aload_n hx hb dL_law_960 rfl (lv_at hl 3 rfl) ?_
  refine lv_iload_n hx hb dL_law_961 rfl (lv_at hl 0 rfl) ?_
  refine lv_iconst (v := 1) hx hb dL_law_962 (by decide) ?_
  refine lv_iadd hx hb dL_law_963 ?_
  refine lv_topi (fun zi9 ezi9 => ?_)
  have hzi9 : zi9.toInt = i.toInt + 1 := by rw [ezi9]; have : ((1 : Int32).toInt) = 1 := (by decide); have := ia_lo i; have := ia_hi i; exact (ia_add (by omega) (by omega)).trans (by omega)
  have h_963 := trivial
  refine va_sld hx hb hX hbl hbA hS (i := zi9) (vp_in_iff.mpr ⟨by omega, by omega⟩) dL_law_964 ?_
  obtain ⟨xs10, exs10⟩ : ∃ z : Int32, xs (Int32.toNatClampNeg zi9) = z := ⟨_, rfl⟩
  rw [exs10]
  have qxs10 : xs2 = xs10 := by rw [← exs10, ← exs2, ia_ext (a := zi9) (b := zi1) (by omega)]
  subst qxs10
  refine lv_aload_n hx hb dL_law_965 rfl (lv_at hl 3 rfl) ?_
  refine lv_iload_n hx hb dL_law_966 rfl (lv_at hl 0 rfl) ?_
  refine lv_iconst (v := 2) hx hb dL_law_967 (by decide) ?_
  refine lv_iadd hx hb dL_law_968 ?_
  refine lv_topi (fun zi11 ezi11 => ?_)
  have hzi11 : zi11.toInt = i.toInt + 2 := by rw [ezi11]; have : ((2 : Int32).toInt) = 2 := (by decide); have := ia_lo i; have := ia_hi i; exact (ia_add (by omega) (by omega)).trans (by omega)
  have h_968 := trivial
  refine va_sld hx hb hX hbl hbA hS (i := zi11) (vp_in_iff.mpr ⟨by omega, by omega⟩) dL_law_969 ?_
  obtain ⟨xs12, exs12⟩ : ∃ z : Int32, xs (Int32.toNatClampNeg zi11) = z := ⟨_, rfl⟩
  rw [exs12]
  have qxs12 : xs4 = xs12 := by rw [← exs12, ← exs4, ia_ext (a := zi11) (b := zi3) (by omega)]
  subst qxs12
  have TH1 := TH
  have hT1 := TH.2.2
  refine tw_Vc (o := mq) (ci := 12) (n := 2) (post := (fun v kq Lq Eq => (∃ x : Int64, v = some (.long x)) ∧ kp = kq ∧ L = Lq ∧ E = Eq)) (As := [.int xs2, .int xs4]) (rest := []) ⟨hx, hb, hml, hown, hB⟩ (fun sz => tX12_word l D cs mq xs2 xs4 hmm hkm sz) cg_L_126_X12_word rfl rfl (by decide +kernel) ⟨Nat.le_of_ble_eq_true rfl, Nat.le_of_ble_eq_true rfl⟩ hK hN TH hS hA rfl hmm hkm (by decide) rfl hl.1 rfl (Nat.le_of_ble_eq_true rfl) dL_law_970 ⟨(by show _ ≤ 600000; omega), (by show _ ≤ 7302250; omega)⟩ (fun v13 kp13 L13 E13 H locs hq13 hx13 TH hS => ?_)
  obtain ⟨⟨xc14, rfl⟩, rfl, rfl, rfl⟩ := hq13
  refine W.eq (g2 := F0 m 973 ls [.long xc14]) rfl ?_
  refine lv_pop2_2 hx hb dL_law_973 rfl ?_
  refine lv_goto (tgt := 1178) hx hb dL_law_974 (by decide) ?_
  exact kk _ _ _ _ _ _ _ (by omega) (by omega) ⟨hmx, hkx, hmm, hkm, g1, g2, g3, ⟨r0, r1, r2, r3, r4, r5, r6, r7, r8, r9⟩, hJ⟩ TH hS
set_option maxHeartbeats 4000000 in
set_option maxRecDepth 100000 in
theorem lop_25 {p : Program} {l : Launch} {e : Env} {s : State} {m : MethodId} {below : List Frame} {meth : Method} {c : Code} {D : va_G} {cs : Nat → ClassId} {A : Nat → Prop} {b Len : Nat} {xs : Nat → Int32} (hx : p.tables.exec = Jvm.exec) (hb : c.code = cL_law) (hr : meth.sig.returnType = ret) (hml : c.maxLocals = 4) (hB : ∀ w ∈ cx_big, w.before #[Value.ref b] s = true) (hown : s.vm.findClass "TreeMergeLaw" = some m.cls) (hlocks : meth.locks = false) (hK : va_K D vwCl (cx_TY cs) s) (hN : tw_NZ D A s s.heap) (hA : ∀ q : Nat, s.heap.size ≤ q → A q) (hA2 : ∀ q : Nat, A q → s.heap.size ≤ q) (hbA : ¬ A b) (hbl : b < s.heap.size) (hX : va_X b Len xs s s.heap) (hLen : Len ≤ 3072) {xq mq : Nat} {kp : Nat → Nat} {L : List Nat} {E : Nat → va_E} (i : Int32) (hi0 : 0 ≤ i.toInt) {cells slots : Nat} (hc : cells + 12 ≤ 600000) (hs : slots + 360 ≤ 7302250) {H : Heap} {locs : List Loc} {ls : Array Slot} (I : lv_I kp L E xq mq) (TH : tw_H D cs kp L E A H) (hS : va_S A s.heap H locs) (hl : lv_has ls 4 [(3, .int i), (2, .ref mq), (1, .ref xq), (0, .ref b)]) (hi1 : i.toInt + 6 ≤ Len) (kk : ∀ (kp1 : Nat → Nat) (L1 : List Nat) (E1 : Nat → va_E) (H1 : Heap) (locs1 : List Loc) (cells1 slots1 : Nat), cells1 ≤ cells + 12 → slots1 ≤ slots + 360 → lv_I kp1 L1 E1 xq mq → tw_H D cs kp1 L1 E1 A H1 → va_S A s.heap H1 locs1 → W p l e room_1 s m #[Value.ref b] below meth c H1 locs1 cells1 slots1 (lw_Z below #[Value.ref b] s) (F0 m 1178 ls [])) : W p l e room_1 s m #[Value.ref b] below meth c H locs cells slots (lw_Z below #[Value.ref b] s) (F0 m 977 ls []) := by
  obtain ⟨hmx, hkx, hmm, hkm, g1, g2, g3, ⟨r0, r1, r2, r3, r4, r5, r6, r7, r8, r9⟩, hJ⟩ := I
  have hJ0 := hJ
  refine lv_aload_n hx hb dL_law_977 rfl (lv_at hl 2 rfl) ?_
  refine lv_aload_n hx hb dL_law_978 rfl (lv_at hl 3 rfl) ?_
  refine lv_iload_n hx hb dL_law_979 rfl (lv_at hl 0 rfl) ?_
  refine lv_iconst (v := 1) hx hb dL_law_980 (by decide) ?_
  refine lv_iadd hx hb dL_law_981 ?_
  refine lv_topi (fun zi1 ezi1 => ?_)
  have hzi1 : zi1.toInt = i.toInt + 1 := by rw [ezi1]; have : ((1 : Int32).toInt) = 1 := (by decide); have := ia_lo i; have := ia_hi i; exact (ia_add (by omega) (by omega)).trans (by omega)
  have h_981 := trivial
  refine va_sld hx hb hX hbl hbA hS (i := zi1) (vp_in_iff.mpr ⟨by omega, by omega⟩) dL_law_982 ?_
  obtain ⟨xs2, exs2⟩ : ∃ z : Int32, xs (Int32.toNatClampNeg zi1) = z := ⟨_, rfl⟩
  rw [exs2]
  obtain ⟨xi3, hxi3, hxi3a, hxi3b⟩ := tw_rd TH hmm hkm (by decide) (by decide) (k := 1) rfl
  obtain ⟨xi4, hxi4, hxi4a, hxi4b⟩ := tw_rd TH hmm hkm (by decide) (by decide) (k := 14) rfl
  have TH0 := TH
  have hT0 := TH.2.2
  refine tw_Vc (o := xq) (ci := 11) (n := 1) (post := (fun v kq Lq Eq => (∃ x : Int32, v = some (.int x)) ∧ kp = kq ∧ L = Lq ∧ E = Eq)) (As := [.int xs2]) (rest := []) ⟨hx, hb, hml, hown, hB⟩ (fun sz => tX11_writer l D cs xq xs2 hmx hkx sz) cg_L_127_X11_writer rfl rfl (by decide +kernel) ⟨Nat.le_of_ble_eq_true rfl, Nat.le_of_ble_eq_true rfl⟩ hK hN TH hS hA rfl hmx hkx (by decide) rfl hl.1 rfl (Nat.le_of_ble_eq_true rfl) dL_law_983 ⟨(by show _ ≤ 600000; omega), (by show _ ≤ 7302250; omega)⟩ (fun v5 kp5 L5 E5 H locs hq5 hx5 TH hS => ?_)
  obtain ⟨⟨xc6, rfl⟩, rfl, rfl, rfl⟩ := hq5
  refine W.eq (g2 := F0 m 986 ls [.int xc6]) rfl ?_
  refine lv_pop hx hb dL_law_986 rfl ?_
  refine lv_aload_n hx hb dL_law_987 rfl (lv_at hl 1 rfl) ?_
  refine lv_aload_n hx hb dL_law_988 rfl (lv_at hl 3 rfl) ?_
  refine lv_iload_n hx hb dL_law_989 rfl (lv_at hl 0 rfl) ?_
  refine lv_iconst (v := 1) hx hb dL_law_990 (by decide) ?_
  refine lv_iadd hx hb dL_law_991 ?_
  refine lv_topi (fun zi7 ezi7 => ?_)
  have hzi7 : zi7.toInt = i.toInt + 1 := by rw [ezi7]; have : ((1 : Int32).toInt) = 1 := (by decide); have := ia_lo i; have := ia_hi i; exact (ia_add (by omega) (by omega)).trans (by omega)
  have h_991 := trivial
  refine va_sld hx hb hX hbl hbA hS (i := zi7) (vp_in_iff.mpr ⟨by omega, by omega⟩) dL_law_992 ?_
  obtain ⟨xs8, exs8⟩ : ∃ z : Int32, xs (Int32.toNatClampNeg zi7) = z := ⟨_, rfl⟩
  rw [exs8]
  have qxs8 : xs2 = xs8 := by rw [← exs8, ← exs2, ia_ext (a := zi7) (b := zi1) (by omega)]
  subst qxs8
  have TH1 := TH
  have hT1 := TH.2.2
  refine tw_Vc (o := mq) (ci := 12) (n := 1) (post := (fun v kq Lq Eq => (∃ x : Int32, v = some (.int x)) ∧ kp = kq ∧ L = Lq ∧ E = Eq)) (As := [.int xs2]) (rest := []) ⟨hx, hb, hml, hown, hB⟩ (fun sz => tX12_writer l D cs mq xs2 hmm hkm sz) cg_L_130_X12_writer rfl rfl (by decide +kernel) ⟨Nat.le_of_ble_eq_true rfl, Nat.le_of_ble_eq_true rfl⟩ hK hN TH hS hA rfl hmm hkm (by decide) rfl hl.1 rfl (Nat.le_of_ble_eq_true rfl) dL_law_993 ⟨(by show _ ≤ 600000; omega), (by show _ ≤ 7302250; omega)⟩ (fun v9 kp9 L9 E9 H locs hq9 hx9 TH hS => ?_)
  obtain ⟨⟨xc10, rfl⟩, rfl, rfl, rfl⟩ := hq9
  refine W.eq (g2 := F0 m 996 ls [.int xc10]) rfl ?_
  refine lv_pop hx hb dL_law_996 rfl ?_
  refine lv_goto (tgt := 1178) hx hb dL_law_997 (by decide) ?_
  exact kk _ _ _ _ _ _ _ (by omega) (by omega) ⟨hmx, hkx, hmm, hkm, g1, g2, g3, ⟨r0, r1, r2, r3, r4, r5, r6, r7, r8, r9⟩, hJ⟩ TH hS
set_option maxHeartbeats 4000000 in
set_option maxRecDepth 100000 in
theorem lop_26 {p : Program} {l : Launch} {e : Env} {s : State} {m : MethodId} {below : List Frame} {meth : Method} {c : Code} {D : va_G} {cs : Nat → ClassId} {A : Nat → Prop} {b Len : Nat} {xs : Nat → Int32} (hx : p.tables.exec = Jvm.exec) (hb : c.code = cL_law) (hr : meth.sig.returnType = ret) (hml : c.maxLocals = 4) (hB : ∀ w ∈ cx_big, w.before #[Value.ref b] s = true) (hown : s.vm.findClass "TreeMergeLaw" = some m.cls) (hlocks : meth.locks = false) (hK : va_K D vwCl (cx_TY cs) s) (hN : tw_NZ D A s s.heap) (hA : ∀ q : Nat, s.heap.size ≤ q → A q) (hA2 : ∀ q : Nat, A q → s.heap.size ≤ q) (hbA : ¬ A b) (hbl : b < s.heap.size) (hX : va_X b Len xs s s.heap) (hLen : Len ≤ 3072) {xq mq : Nat} {kp : Nat → Nat} {L : List Nat} {E : Nat → va_E} (i : Int32) (hi0 : 0 ≤ i.toInt) {cells slots : Nat} (hc : cells + 12 ≤ 600000) (hs : slots + 360 ≤ 7302250) {H : Heap} {locs : List Loc} {ls : Array Slot} (I : lv_I kp L E xq mq) (TH : tw_H D cs kp L E A H) (hS : va_S A s.heap H locs) (hl : lv_has ls 4 [(3, .int i), (2, .ref mq), (1, .ref xq), (0, .ref b)]) (hi1 : i.toInt + 6 ≤ Len) (kk : ∀ (kp1 : Nat → Nat) (L1 : List Nat) (E1 : Nat → va_E) (H1 : Heap) (locs1 : List Loc) (cells1 slots1 : Nat), cells1 ≤ cells + 12 → slots1 ≤ slots + 360 → lv_I kp1 L1 E1 xq mq → tw_H D cs kp1 L1 E1 A H1 → va_S A s.heap H1 locs1 → W p l e room_1 s m #[Value.ref b] below meth c H1 locs1 cells1 slots1 (lw_Z below #[Value.ref b] s) (F0 m 1178 ls [])) : W p l e room_1 s m #[Value.ref b] below meth c H locs cells slots (lw_Z below #[Value.ref b] s) (F0 m 1000 ls []) := by
  obtain ⟨hmx, hkx, hmm, hkm, g1, g2, g3, ⟨r0, r1, r2, r3, r4, r5, r6, r7, r8, r9⟩, hJ⟩ := I
  have hJ0 := hJ
  refine lv_aload_n hx hb dL_law_1000 rfl (lv_at hl 2 rfl) ?_
  refine lv_aload_n hx hb dL_law_1001 rfl (lv_at hl 3 rfl) ?_
  refine lv_iload_n hx hb dL_law_1002 rfl (lv_at hl 0 rfl) ?_
  refine lv_iconst (v := 1) hx hb dL_law_1003 (by decide) ?_
  refine lv_iadd hx hb dL_law_1004 ?_
  refine lv_topi (fun zi1 ezi1 => ?_)
  have hzi1 : zi1.toInt = i.toInt + 1 := by rw [ezi1]; have : ((1 : Int32).toInt) = 1 := (by decide); have := ia_lo i; have := ia_hi i; exact (ia_add (by omega) (by omega)).trans (by omega)
  have h_1004 := trivial
  refine va_sld hx hb hX hbl hbA hS (i := zi1) (vp_in_iff.mpr ⟨by omega, by omega⟩) dL_law_1005 ?_
  obtain ⟨xs2, exs2⟩ : ∃ z : Int32, xs (Int32.toNatClampNeg zi1) = z := ⟨_, rfl⟩
  rw [exs2]
  obtain ⟨xi3, hxi3, hxi3a, hxi3b⟩ := tw_rd TH hmm hkm (by decide) (by decide) (k := 1) rfl
  obtain ⟨xi4, hxi4, hxi4a, hxi4b⟩ := tw_rd TH hmm hkm (by decide) (by decide) (k := 14) rfl
  have TH0 := TH
  have hT0 := TH.2.2
  refine tw_Vc (o := xq) (ci := 11) (n := 1) (post := (fun v kq Lq Eq => (∃ x : Int32, v = some (.int x)) ∧ kp = kq ∧ L = Lq ∧ tw_fr kp L [] [182] E Eq)) (As := [.int xs2]) (rest := []) ⟨hx, hb, hml, hown, hB⟩ (fun sz => tX11_name l D cs xq xs2 hmx hkx sz) cg_L_131_X11_name rfl rfl (by decide +kernel) ⟨Nat.le_of_ble_eq_true rfl, Nat.le_of_ble_eq_true rfl⟩ hK hN TH hS hA rfl hmx hkx (by decide) rfl hl.1 rfl (Nat.le_of_ble_eq_true rfl) dL_law_1006 ⟨(by show _ ≤ 600000; omega), (by show _ ≤ 7302250; omega)⟩ (fun v5 kp5 L5 E5 H locs hq5 hx5 TH hS => ?_)
  obtain ⟨⟨xc6, rfl⟩, rfl, rfl, hst5⟩ := hq5
  have hmf7 : tw_fv E5 mq 1 = .int xi3 := (hst5.1 mq 1 hmm (by rw [hkm]; decide)).trans hxi3
  have hmf8 : tw_fv E5 mq 14 = .int xi4 := (hst5.1 mq 14 hmm (by rw [hkm]; decide)).trans hxi4
  have g1 : gz_ok E5 xq := gz_ok_fr TH hst5 hmx hkx (by decide) (by decide) g1
  have g2 : ss_ok E5 xq := ss_ok_fr TH hst5 hmx hkx (by decide) (by decide) g2
  have g3 : ac_ok E5 xq := ac_ok_fr TH hst5 hmx hkx (by decide) (by decide) g3
  have r0 : rd_ok E5 mq := rd_ok_fr TH hst5 hmm hkm (by decide) (by decide) r0
  have r1 : eo_ok E5 mq := eo_ok_fr TH hst5 hmm hkm (by decide) (by decide) r1
  have r2 : ht_ok E5 mq := ht_ok_fr TH hst5 hmm hkm (by decide) (by decide) r2
  have r3 : dr_ok E5 mq := dr_ok_fr TH hst5 hmm hkm (by decide) (by decide) r3
  have r4 : ln_ok E5 mq := ln_ok_fr TH hst5 hmm hkm (by decide) (by decide) r4
  have r5 : dl_ok E5 mq := dl_ok_fr TH hst5 hmm hkm (by decide) (by decide) r5
  have r6 : fw_ok E5 mq := fw_ok_fr TH hst5 hmm hkm (by decide) (by decide) r6
  have r7 : kg_ok E5 mq := kg_ok_fr TH hst5 hmm hkm (by decide) (by decide) r7
  have r8 : sd_ok E5 mq := sd_ok_fr TH hst5 hmm hkm (by decide) (by decide) r8
  have r9 : rg_ok E5 mq := rg_ok_fr TH hst5 hmm hkm (by decide) (by decide) r9
  have hJ : lj_ok E5 xq mq := lj_ok_fr TH hst5 hmx hkx hmm hkm (by decide) (by decide) hJ
  refine W.eq (g2 := F0 m 1009 ls [.int xc6]) rfl ?_
  refine lv_pop hx hb dL_law_1009 rfl ?_
  refine lv_aload_n hx hb dL_law_1010 rfl (lv_at hl 1 rfl) ?_
  refine lv_aload_n hx hb dL_law_1011 rfl (lv_at hl 3 rfl) ?_
  refine lv_iload_n hx hb dL_law_1012 rfl (lv_at hl 0 rfl) ?_
  refine lv_iconst (v := 1) hx hb dL_law_1013 (by decide) ?_
  refine lv_iadd hx hb dL_law_1014 ?_
  refine lv_topi (fun zi9 ezi9 => ?_)
  have hzi9 : zi9.toInt = i.toInt + 1 := by rw [ezi9]; have : ((1 : Int32).toInt) = 1 := (by decide); have := ia_lo i; have := ia_hi i; exact (ia_add (by omega) (by omega)).trans (by omega)
  have h_1014 := trivial
  refine va_sld hx hb hX hbl hbA hS (i := zi9) (vp_in_iff.mpr ⟨by omega, by omega⟩) dL_law_1015 ?_
  obtain ⟨xs10, exs10⟩ : ∃ z : Int32, xs (Int32.toNatClampNeg zi9) = z := ⟨_, rfl⟩
  rw [exs10]
  have qxs10 : xs2 = xs10 := by rw [← exs10, ← exs2, ia_ext (a := zi9) (b := zi1) (by omega)]
  subst qxs10
  have TH1 := TH
  have hT1 := TH.2.2
  refine tw_Vc (o := mq) (ci := 12) (n := 1) (post := (fun v kq Lq Eq => (∃ x : Int32, v = some (.int x)) ∧ kp = kq ∧ L = Lq ∧ E5 = Eq)) (As := [.int xs2]) (rest := []) ⟨hx, hb, hml, hown, hB⟩ (fun sz => tX12_name l D cs mq xs2 hmm hkm r1 sz) cg_L_134_X12_name rfl rfl (by decide +kernel) ⟨Nat.le_of_ble_eq_true rfl, Nat.le_of_ble_eq_true rfl⟩ hK hN TH hS hA rfl hmm hkm (by decide) rfl hl.1 rfl (Nat.le_of_ble_eq_true rfl) dL_law_1016 ⟨(by show _ ≤ 600000; omega), (by show _ ≤ 7302250; omega)⟩ (fun v11 kp11 L11 E11 H locs hq11 hx11 TH hS => ?_)
  obtain ⟨⟨xc12, rfl⟩, rfl, rfl, rfl⟩ := hq11
  refine W.eq (g2 := F0 m 1019 ls [.int xc12]) rfl ?_
  refine lv_pop hx hb dL_law_1019 rfl ?_
  refine lv_goto (tgt := 1178) hx hb dL_law_1020 (by decide) ?_
  exact kk _ _ _ _ _ _ _ (by omega) (by omega) ⟨hmx, hkx, hmm, hkm, g1, g2, g3, ⟨r0, r1, r2, r3, r4, r5, r6, r7, r8, r9⟩, hJ⟩ TH hS
set_option maxHeartbeats 4000000 in
set_option maxRecDepth 100000 in
theorem lop_27 {p : Program} {l : Launch} {e : Env} {s : State} {m : MethodId} {below : List Frame} {meth : Method} {c : Code} {D : va_G} {cs : Nat → ClassId} {A : Nat → Prop} {b Len : Nat} {xs : Nat → Int32} (hx : p.tables.exec = Jvm.exec) (hb : c.code = cL_law) (hr : meth.sig.returnType = ret) (hml : c.maxLocals = 4) (hB : ∀ w ∈ cx_big, w.before #[Value.ref b] s = true) (hown : s.vm.findClass "TreeMergeLaw" = some m.cls) (hlocks : meth.locks = false) (hK : va_K D vwCl (cx_TY cs) s) (hN : tw_NZ D A s s.heap) (hA : ∀ q : Nat, s.heap.size ≤ q → A q) (hA2 : ∀ q : Nat, A q → s.heap.size ≤ q) (hbA : ¬ A b) (hbl : b < s.heap.size) (hX : va_X b Len xs s s.heap) (hLen : Len ≤ 3072) {xq mq : Nat} {kp : Nat → Nat} {L : List Nat} {E : Nat → va_E} (i : Int32) (hi0 : 0 ≤ i.toInt) {cells slots : Nat} (hc : cells + 12 ≤ 600000) (hs : slots + 360 ≤ 7302250) {H : Heap} {locs : List Loc} {ls : Array Slot} (I : lv_I kp L E xq mq) (TH : tw_H D cs kp L E A H) (hS : va_S A s.heap H locs) (hl : lv_has ls 4 [(3, .int i), (2, .ref mq), (1, .ref xq), (0, .ref b)]) (hi1 : i.toInt + 6 ≤ Len) (kk : ∀ (kp1 : Nat → Nat) (L1 : List Nat) (E1 : Nat → va_E) (H1 : Heap) (locs1 : List Loc) (cells1 slots1 : Nat), cells1 ≤ cells + 12 → slots1 ≤ slots + 360 → lv_I kp1 L1 E1 xq mq → tw_H D cs kp1 L1 E1 A H1 → va_S A s.heap H1 locs1 → W p l e room_1 s m #[Value.ref b] below meth c H1 locs1 cells1 slots1 (lw_Z below #[Value.ref b] s) (F0 m 1178 ls [])) : W p l e room_1 s m #[Value.ref b] below meth c H locs cells slots (lw_Z below #[Value.ref b] s) (F0 m 1023 ls []) := by
  obtain ⟨hmx, hkx, hmm, hkm, g1, g2, g3, ⟨r0, r1, r2, r3, r4, r5, r6, r7, r8, r9⟩, hJ⟩ := I
  have hJ0 := hJ
  refine lv_aload_n hx hb dL_law_1023 rfl (lv_at hl 2 rfl) ?_
  refine lv_aload_n hx hb dL_law_1024 rfl (lv_at hl 3 rfl) ?_
  refine lv_iload_n hx hb dL_law_1025 rfl (lv_at hl 0 rfl) ?_
  refine lv_iconst (v := 1) hx hb dL_law_1026 (by decide) ?_
  refine lv_iadd hx hb dL_law_1027 ?_
  refine lv_topi (fun zi1 ezi1 => ?_)
  have hzi1 : zi1.toInt = i.toInt + 1 := by rw [ezi1]; have : ((1 : Int32).toInt) = 1 := (by decide); have := ia_lo i; have := ia_hi i; exact (ia_add (by omega) (by omega)).trans (by omega)
  have h_1027 := trivial
  refine va_sld hx hb hX hbl hbA hS (i := zi1) (vp_in_iff.mpr ⟨by omega, by omega⟩) dL_law_1028 ?_
  obtain ⟨xs2, exs2⟩ : ∃ z : Int32, xs (Int32.toNatClampNeg zi1) = z := ⟨_, rfl⟩
  rw [exs2]
  refine lv_aload_n hx hb dL_law_1029 rfl (lv_at hl 3 rfl) ?_
  refine lv_iload_n hx hb dL_law_1030 rfl (lv_at hl 0 rfl) ?_
  refine lv_iconst (v := 2) hx hb dL_law_1031 (by decide) ?_
  refine lv_iadd hx hb dL_law_1032 ?_
  refine lv_topi (fun zi3 ezi3 => ?_)
  have hzi3 : zi3.toInt = i.toInt + 2 := by rw [ezi3]; have : ((2 : Int32).toInt) = 2 := (by decide); have := ia_lo i; have := ia_hi i; exact (ia_add (by omega) (by omega)).trans (by omega)
  have h_1032 := trivial
  refine va_sld hx hb hX hbl hbA hS (i := zi3) (vp_in_iff.mpr ⟨by omega, by omega⟩) dL_law_1033 ?_
  obtain ⟨xs4, exs4⟩ : ∃ z : Int32, xs (Int32.toNatClampNeg zi3) = z := ⟨_, rfl⟩
  rw [exs4]
  obtain ⟨xi5, hxi5, hxi5a, hxi5b⟩ := tw_rd TH hmm hkm (by decide) (by decide) (k := 1) rfl
  obtain ⟨xi6, hxi6, hxi6a, hxi6b⟩ := tw_rd TH hmm hkm (by decide) (by decide) (k := 14) rfl
  have TH0 := TH
  have hT0 := TH.2.2
  refine tw_Vc (o := xq) (ci := 11) (n := 2) (post := (fun v kq Lq Eq => (∃ x : Int32, v = some (.int x) ∧ 0 ≤ x.toInt ∧ x.toInt ≤ 1) ∧ kp = kq ∧ L = Lq ∧ E = Eq)) (As := [.int xs2, .int xs4]) (rest := []) ⟨hx, hb, hml, hown, hB⟩ (fun sz => tX11_same l D cs xq xs2 xs4 hmx hkx sz) cg_L_135_X11_same rfl rfl (by decide +kernel) ⟨Nat.le_of_ble_eq_true rfl, Nat.le_of_ble_eq_true rfl⟩ hK hN TH hS hA rfl hmx hkx (by decide) rfl hl.1 rfl (Nat.le_of_ble_eq_true rfl) dL_law_1034 ⟨(by show _ ≤ 600000; omega), (by show _ ≤ 7302250; omega)⟩ (fun v7 kp7 L7 E7 H locs hq7 hx7 TH hS => ?_)
  obtain ⟨⟨xc8, rfl, hxc8a, hxc8b⟩, rfl, rfl, rfl⟩ := hq7
  refine W.eq (g2 := F0 m 1037 ls [.int xc8]) rfl ?_
  refine lv_pop hx hb dL_law_1037 rfl ?_
  refine lv_aload_n hx hb dL_law_1038 rfl (lv_at hl 1 rfl) ?_
  refine lv_aload_n hx hb dL_law_1039 rfl (lv_at hl 3 rfl) ?_
  refine lv_iload_n hx hb dL_law_1040 rfl (lv_at hl 0 rfl) ?_
  refine lv_iconst (v := 1) hx hb dL_law_1041 (by decide) ?_
  refine lv_iadd hx hb dL_law_1042 ?_
  refine lv_topi (fun zi9 ezi9 => ?_)
  have hzi9 : zi9.toInt = i.toInt + 1 := by rw [ezi9]; have : ((1 : Int32).toInt) = 1 := (by decide); have := ia_lo i; have := ia_hi i; exact (ia_add (by omega) (by omega)).trans (by omega)
  have h_1042 := trivial
  refine va_sld hx hb hX hbl hbA hS (i := zi9) (vp_in_iff.mpr ⟨by omega, by omega⟩) dL_law_1043 ?_
  obtain ⟨xs10, exs10⟩ : ∃ z : Int32, xs (Int32.toNatClampNeg zi9) = z := ⟨_, rfl⟩
  rw [exs10]
  have qxs10 : xs2 = xs10 := by rw [← exs10, ← exs2, ia_ext (a := zi9) (b := zi1) (by omega)]
  subst qxs10
  refine lv_aload_n hx hb dL_law_1044 rfl (lv_at hl 3 rfl) ?_
  refine lv_iload_n hx hb dL_law_1045 rfl (lv_at hl 0 rfl) ?_
  refine lv_iconst (v := 2) hx hb dL_law_1046 (by decide) ?_
  refine lv_iadd hx hb dL_law_1047 ?_
  refine lv_topi (fun zi11 ezi11 => ?_)
  have hzi11 : zi11.toInt = i.toInt + 2 := by rw [ezi11]; have : ((2 : Int32).toInt) = 2 := (by decide); have := ia_lo i; have := ia_hi i; exact (ia_add (by omega) (by omega)).trans (by omega)
  have h_1047 := trivial
  refine va_sld hx hb hX hbl hbA hS (i := zi11) (vp_in_iff.mpr ⟨by omega, by omega⟩) dL_law_1048 ?_
  obtain ⟨xs12, exs12⟩ : ∃ z : Int32, xs (Int32.toNatClampNeg zi11) = z := ⟨_, rfl⟩
  rw [exs12]
  have qxs12 : xs4 = xs12 := by rw [← exs12, ← exs4, ia_ext (a := zi11) (b := zi3) (by omega)]
  subst qxs12
  have TH1 := TH
  have hT1 := TH.2.2
  refine tw_Vc (o := mq) (ci := 12) (n := 2) (post := (fun v kq Lq Eq => (∃ x : Int32, v = some (.int x) ∧ 0 ≤ x.toInt ∧ x.toInt ≤ 1) ∧ kp = kq ∧ L = Lq ∧ E = Eq)) (As := [.int xs2, .int xs4]) (rest := []) ⟨hx, hb, hml, hown, hB⟩ (fun sz => tX12_same l D cs mq xs2 xs4 hmm hkm r1 sz) cg_L_139_X12_same rfl rfl (by decide +kernel) ⟨Nat.le_of_ble_eq_true rfl, Nat.le_of_ble_eq_true rfl⟩ hK hN TH hS hA rfl hmm hkm (by decide) rfl hl.1 rfl (Nat.le_of_ble_eq_true rfl) dL_law_1049 ⟨(by show _ ≤ 600000; omega), (by show _ ≤ 7302250; omega)⟩ (fun v13 kp13 L13 E13 H locs hq13 hx13 TH hS => ?_)
  obtain ⟨⟨xc14, rfl, hxc14a, hxc14b⟩, rfl, rfl, rfl⟩ := hq13
  refine W.eq (g2 := F0 m 1052 ls [.int xc14]) rfl ?_
  refine lv_pop hx hb dL_law_1052 rfl ?_
  refine lv_goto (tgt := 1178) hx hb dL_law_1053 (by decide) ?_
  exact kk _ _ _ _ _ _ _ (by omega) (by omega) ⟨hmx, hkx, hmm, hkm, g1, g2, g3, ⟨r0, r1, r2, r3, r4, r5, r6, r7, r8, r9⟩, hJ⟩ TH hS
set_option maxHeartbeats 4000000 in
set_option maxRecDepth 100000 in
theorem lop_28 {p : Program} {l : Launch} {e : Env} {s : State} {m : MethodId} {below : List Frame} {meth : Method} {c : Code} {D : va_G} {cs : Nat → ClassId} {A : Nat → Prop} {b Len : Nat} {xs : Nat → Int32} (hx : p.tables.exec = Jvm.exec) (hb : c.code = cL_law) (hr : meth.sig.returnType = ret) (hml : c.maxLocals = 4) (hB : ∀ w ∈ cx_big, w.before #[Value.ref b] s = true) (hown : s.vm.findClass "TreeMergeLaw" = some m.cls) (hlocks : meth.locks = false) (hK : va_K D vwCl (cx_TY cs) s) (hN : tw_NZ D A s s.heap) (hA : ∀ q : Nat, s.heap.size ≤ q → A q) (hA2 : ∀ q : Nat, A q → s.heap.size ≤ q) (hbA : ¬ A b) (hbl : b < s.heap.size) (hX : va_X b Len xs s s.heap) (hLen : Len ≤ 3072) {xq mq : Nat} {kp : Nat → Nat} {L : List Nat} {E : Nat → va_E} (i : Int32) (hi0 : 0 ≤ i.toInt) {cells slots : Nat} (hc : cells + 12 ≤ 600000) (hs : slots + 360 ≤ 7302250) {H : Heap} {locs : List Loc} {ls : Array Slot} (I : lv_I kp L E xq mq) (TH : tw_H D cs kp L E A H) (hS : va_S A s.heap H locs) (hl : lv_has ls 4 [(3, .int i), (2, .ref mq), (1, .ref xq), (0, .ref b)]) (hi1 : i.toInt + 6 ≤ Len) (kk : ∀ (kp1 : Nat → Nat) (L1 : List Nat) (E1 : Nat → va_E) (H1 : Heap) (locs1 : List Loc) (cells1 slots1 : Nat), cells1 ≤ cells + 12 → slots1 ≤ slots + 360 → lv_I kp1 L1 E1 xq mq → tw_H D cs kp1 L1 E1 A H1 → va_S A s.heap H1 locs1 → W p l e room_1 s m #[Value.ref b] below meth c H1 locs1 cells1 slots1 (lw_Z below #[Value.ref b] s) (F0 m 1178 ls [])) : W p l e room_1 s m #[Value.ref b] below meth c H locs cells slots (lw_Z below #[Value.ref b] s) (F0 m 1056 ls []) := by
  obtain ⟨hmx, hkx, hmm, hkm, g1, g2, g3, ⟨r0, r1, r2, r3, r4, r5, r6, r7, r8, r9⟩, hJ⟩ := I
  have hJ0 := hJ
  refine lv_aload_n hx hb dL_law_1056 rfl (lv_at hl 2 rfl) ?_
  refine lv_aload_n hx hb dL_law_1057 rfl (lv_at hl 3 rfl) ?_
  refine lv_iload_n hx hb dL_law_1058 rfl (lv_at hl 0 rfl) ?_
  refine lv_iconst (v := 1) hx hb dL_law_1059 (by decide) ?_
  refine lv_iadd hx hb dL_law_1060 ?_
  refine lv_topi (fun zi1 ezi1 => ?_)
  have hzi1 : zi1.toInt = i.toInt + 1 := by rw [ezi1]; have : ((1 : Int32).toInt) = 1 := (by decide); have := ia_lo i; have := ia_hi i; exact (ia_add (by omega) (by omega)).trans (by omega)
  have h_1060 := trivial
  refine va_sld hx hb hX hbl hbA hS (i := zi1) (vp_in_iff.mpr ⟨by omega, by omega⟩) dL_law_1061 ?_
  obtain ⟨xs2, exs2⟩ : ∃ z : Int32, xs (Int32.toNatClampNeg zi1) = z := ⟨_, rfl⟩
  rw [exs2]
  refine lv_aload_n hx hb dL_law_1062 rfl (lv_at hl 3 rfl) ?_
  refine lv_iload_n hx hb dL_law_1063 rfl (lv_at hl 0 rfl) ?_
  refine lv_iconst (v := 2) hx hb dL_law_1064 (by decide) ?_
  refine lv_iadd hx hb dL_law_1065 ?_
  refine lv_topi (fun zi3 ezi3 => ?_)
  have hzi3 : zi3.toInt = i.toInt + 2 := by rw [ezi3]; have : ((2 : Int32).toInt) = 2 := (by decide); have := ia_lo i; have := ia_hi i; exact (ia_add (by omega) (by omega)).trans (by omega)
  have h_1065 := trivial
  refine va_sld hx hb hX hbl hbA hS (i := zi3) (vp_in_iff.mpr ⟨by omega, by omega⟩) dL_law_1066 ?_
  obtain ⟨xs4, exs4⟩ : ∃ z : Int32, xs (Int32.toNatClampNeg zi3) = z := ⟨_, rfl⟩
  rw [exs4]
  obtain ⟨xi5, hxi5, hxi5a, hxi5b⟩ := tw_rd TH hmm hkm (by decide) (by decide) (k := 1) rfl
  obtain ⟨xi6, hxi6, hxi6a, hxi6b⟩ := tw_rd TH hmm hkm (by decide) (by decide) (k := 14) rfl
  have TH0 := TH
  have hT0 := TH.2.2
  refine tw_Vc (o := xq) (ci := 11) (n := 2) (post := (fun v kq Lq Eq => (∃ x : Int32, v = some (.int x) ∧ gz_ok Eq xq) ∧ kp = kq ∧ L = Lq ∧ tw_fr kp L [(6, 0), (6, 1), (6, 2)] [] E Eq)) (As := [.int xs2, .int xs4]) (rest := []) ⟨hx, hb, hml, hown, hB⟩ (fun sz => tX11_print l D cs xq xs2 xs4 hmx hkx g1 sz) cg_L_140_X11_print rfl rfl (by decide +kernel) ⟨Nat.le_of_ble_eq_true rfl, Nat.le_of_ble_eq_true rfl⟩ hK hN TH hS hA rfl hmx hkx (by decide) rfl hl.1 rfl (Nat.le_of_ble_eq_true rfl) dL_law_1067 ⟨(by show _ ≤ 600000; omega), (by show _ ≤ 7302250; omega)⟩ (fun v7 kp7 L7 E7 H locs hq7 hx7 TH hS => ?_)
  obtain ⟨⟨xc8, rfl, hgpxc8_0⟩, rfl, rfl, hst7⟩ := hq7
  have hmf9 : tw_fv E7 mq 1 = .int xi5 := (hst7.1 mq 1 hmm (by rw [hkm]; decide)).trans hxi5
  have hmf10 : tw_fv E7 mq 14 = .int xi6 := (hst7.1 mq 14 hmm (by rw [hkm]; decide)).trans hxi6
  have g2 : ss_ok E7 xq := ss_ok_fr TH hst7 hmx hkx (by decide) (by decide) g2
  have g3 : ac_ok E7 xq := ac_ok_fr TH hst7 hmx hkx (by decide) (by decide) g3
  have r0 : rd_ok E7 mq := rd_ok_fr TH hst7 hmm hkm (by decide) (by decide) r0
  have r1 : eo_ok E7 mq := eo_ok_fr TH hst7 hmm hkm (by decide) (by decide) r1
  have r2 : ht_ok E7 mq := ht_ok_fr TH hst7 hmm hkm (by decide) (by decide) r2
  have r3 : dr_ok E7 mq := dr_ok_fr TH hst7 hmm hkm (by decide) (by decide) r3
  have r4 : ln_ok E7 mq := ln_ok_fr TH hst7 hmm hkm (by decide) (by decide) r4
  have r5 : dl_ok E7 mq := dl_ok_fr TH hst7 hmm hkm (by decide) (by decide) r5
  have r6 : fw_ok E7 mq := fw_ok_fr TH hst7 hmm hkm (by decide) (by decide) r6
  have r7 : kg_ok E7 mq := kg_ok_fr TH hst7 hmm hkm (by decide) (by decide) r7
  have r8 : sd_ok E7 mq := sd_ok_fr TH hst7 hmm hkm (by decide) (by decide) r8
  have r9 : rg_ok E7 mq := rg_ok_fr TH hst7 hmm hkm (by decide) (by decide) r9
  have hJ : lj_ok E7 xq mq := lj_ok_fr TH hst7 hmx hkx hmm hkm (by decide) (by decide) hJ
  refine W.eq (g2 := F0 m 1070 ls [.int xc8]) rfl ?_
  refine lv_pop hx hb dL_law_1070 rfl ?_
  refine lv_aload_n hx hb dL_law_1071 rfl (lv_at hl 1 rfl) ?_
  refine lv_aload_n hx hb dL_law_1072 rfl (lv_at hl 3 rfl) ?_
  refine lv_iload_n hx hb dL_law_1073 rfl (lv_at hl 0 rfl) ?_
  refine lv_iconst (v := 1) hx hb dL_law_1074 (by decide) ?_
  refine lv_iadd hx hb dL_law_1075 ?_
  refine lv_topi (fun zi11 ezi11 => ?_)
  have hzi11 : zi11.toInt = i.toInt + 1 := by rw [ezi11]; have : ((1 : Int32).toInt) = 1 := (by decide); have := ia_lo i; have := ia_hi i; exact (ia_add (by omega) (by omega)).trans (by omega)
  have h_1075 := trivial
  refine va_sld hx hb hX hbl hbA hS (i := zi11) (vp_in_iff.mpr ⟨by omega, by omega⟩) dL_law_1076 ?_
  obtain ⟨xs12, exs12⟩ : ∃ z : Int32, xs (Int32.toNatClampNeg zi11) = z := ⟨_, rfl⟩
  rw [exs12]
  have qxs12 : xs2 = xs12 := by rw [← exs12, ← exs2, ia_ext (a := zi11) (b := zi1) (by omega)]
  subst qxs12
  refine lv_aload_n hx hb dL_law_1077 rfl (lv_at hl 3 rfl) ?_
  refine lv_iload_n hx hb dL_law_1078 rfl (lv_at hl 0 rfl) ?_
  refine lv_iconst (v := 2) hx hb dL_law_1079 (by decide) ?_
  refine lv_iadd hx hb dL_law_1080 ?_
  refine lv_topi (fun zi13 ezi13 => ?_)
  have hzi13 : zi13.toInt = i.toInt + 2 := by rw [ezi13]; have : ((2 : Int32).toInt) = 2 := (by decide); have := ia_lo i; have := ia_hi i; exact (ia_add (by omega) (by omega)).trans (by omega)
  have h_1080 := trivial
  refine va_sld hx hb hX hbl hbA hS (i := zi13) (vp_in_iff.mpr ⟨by omega, by omega⟩) dL_law_1081 ?_
  obtain ⟨xs14, exs14⟩ : ∃ z : Int32, xs (Int32.toNatClampNeg zi13) = z := ⟨_, rfl⟩
  rw [exs14]
  have qxs14 : xs4 = xs14 := by rw [← exs14, ← exs4, ia_ext (a := zi13) (b := zi3) (by omega)]
  subst qxs14
  have TH1 := TH
  have hT1 := TH.2.2
  refine tw_Vc (o := mq) (ci := 12) (n := 2) (post := (fun v kq Lq Eq => (∃ x : Int32, v = some (.int x)) ∧ kp = kq ∧ L = Lq ∧ tw_fr kp L [(12, 63)] [366] E7 Eq)) (As := [.int xs2, .int xs4]) (rest := []) ⟨hx, hb, hml, hown, hB⟩ (fun sz => tX12_print l D cs mq xs2 xs4 hmm hkm r1 r7 sz) cg_L_143_X12_print rfl rfl (by decide +kernel) ⟨Nat.le_of_ble_eq_true rfl, Nat.le_of_ble_eq_true rfl⟩ hK hN TH hS hA rfl hmm hkm (by decide) rfl hl.1 rfl (Nat.le_of_ble_eq_true rfl) dL_law_1082 ⟨(by show _ ≤ 600000; omega), (by show _ ≤ 7302250; omega)⟩ (fun v15 kp15 L15 E15 H locs hq15 hx15 TH hS => ?_)
  obtain ⟨⟨xc16, rfl⟩, rfl, rfl, hst15⟩ := hq15
  have hmf17 : tw_fv E15 mq 1 = .int xi5 := (hst15.1 mq 1 hmm (by rw [hkm]; decide)).trans hmf9
  have hmf18 : tw_fv E15 mq 14 = .int xi6 := (hst15.1 mq 14 hmm (by rw [hkm]; decide)).trans hmf10
  have g2 : ss_ok E15 xq := ss_ok_fr TH hst15 hmx hkx (by decide) (by decide) g2
  have g3 : ac_ok E15 xq := ac_ok_fr TH hst15 hmx hkx (by decide) (by decide) g3
  have r0 : rd_ok E15 mq := rd_ok_fr TH hst15 hmm hkm (by decide) (by decide) r0
  have r1 : eo_ok E15 mq := eo_ok_fr TH hst15 hmm hkm (by decide) (by decide) r1
  have r2 : ht_ok E15 mq := ht_ok_fr TH hst15 hmm hkm (by decide) (by decide) r2
  have r3 : dr_ok E15 mq := dr_ok_fr TH hst15 hmm hkm (by decide) (by decide) r3
  have r4 : ln_ok E15 mq := ln_ok_fr TH hst15 hmm hkm (by decide) (by decide) r4
  have r5 : dl_ok E15 mq := dl_ok_fr TH hst15 hmm hkm (by decide) (by decide) r5
  have r6 : fw_ok E15 mq := fw_ok_fr TH hst15 hmm hkm (by decide) (by decide) r6
  have r7 : kg_ok E15 mq := kg_ok_fr TH hst15 hmm hkm (by decide) (by decide) r7
  have r8 : sd_ok E15 mq := sd_ok_fr TH hst15 hmm hkm (by decide) (by decide) r8
  have r9 : rg_ok E15 mq := rg_ok_fr TH hst15 hmm hkm (by decide) (by decide) r9
  have hJ : lj_ok E15 xq mq := lj_ok_fr TH hst15 hmx hkx hmm hkm (by decide) (by decide) hJ
  have hgpxc8_0 : gz_ok E15 xq := gz_ok_fr TH hst15 hmx hkx (by decide) (by decide) hgpxc8_0
  refine W.eq (g2 := F0 m 1085 ls [.int xc16]) rfl ?_
  refine lv_pop hx hb dL_law_1085 rfl ?_
  refine lv_goto (tgt := 1178) hx hb dL_law_1086 (by decide) ?_
  exact kk _ _ _ _ _ _ _ (by omega) (by omega) ⟨hmx, hkx, hmm, hkm, hgpxc8_0, g2, g3, ⟨r0, r1, r2, r3, r4, r5, r6, r7, r8, r9⟩, hJ⟩ TH hS
set_option maxHeartbeats 4000000 in
set_option maxRecDepth 100000 in
theorem lop_29 {p : Program} {l : Launch} {e : Env} {s : State} {m : MethodId} {below : List Frame} {meth : Method} {c : Code} {D : va_G} {cs : Nat → ClassId} {A : Nat → Prop} {b Len : Nat} {xs : Nat → Int32} (hx : p.tables.exec = Jvm.exec) (hb : c.code = cL_law) (hr : meth.sig.returnType = ret) (hml : c.maxLocals = 4) (hB : ∀ w ∈ cx_big, w.before #[Value.ref b] s = true) (hown : s.vm.findClass "TreeMergeLaw" = some m.cls) (hlocks : meth.locks = false) (hK : va_K D vwCl (cx_TY cs) s) (hN : tw_NZ D A s s.heap) (hA : ∀ q : Nat, s.heap.size ≤ q → A q) (hA2 : ∀ q : Nat, A q → s.heap.size ≤ q) (hbA : ¬ A b) (hbl : b < s.heap.size) (hX : va_X b Len xs s s.heap) (hLen : Len ≤ 3072) {xq mq : Nat} {kp : Nat → Nat} {L : List Nat} {E : Nat → va_E} (i : Int32) (hi0 : 0 ≤ i.toInt) {cells slots : Nat} (hc : cells + 12 ≤ 600000) (hs : slots + 360 ≤ 7302250) {H : Heap} {locs : List Loc} {ls : Array Slot} (I : lv_I kp L E xq mq) (TH : tw_H D cs kp L E A H) (hS : va_S A s.heap H locs) (hl : lv_has ls 4 [(3, .int i), (2, .ref mq), (1, .ref xq), (0, .ref b)]) (hi1 : i.toInt + 6 ≤ Len) (kk : ∀ (kp1 : Nat → Nat) (L1 : List Nat) (E1 : Nat → va_E) (H1 : Heap) (locs1 : List Loc) (cells1 slots1 : Nat), cells1 ≤ cells + 12 → slots1 ≤ slots + 360 → lv_I kp1 L1 E1 xq mq → tw_H D cs kp1 L1 E1 A H1 → va_S A s.heap H1 locs1 → W p l e room_1 s m #[Value.ref b] below meth c H1 locs1 cells1 slots1 (lw_Z below #[Value.ref b] s) (F0 m 1178 ls [])) : W p l e room_1 s m #[Value.ref b] below meth c H locs cells slots (lw_Z below #[Value.ref b] s) (F0 m 1089 ls []) := by
  obtain ⟨hmx, hkx, hmm, hkm, g1, g2, g3, ⟨r0, r1, r2, r3, r4, r5, r6, r7, r8, r9⟩, hJ⟩ := I
  have hJ0 := hJ
  refine lv_aload_n hx hb dL_law_1089 rfl (lv_at hl 2 rfl) ?_
  refine lv_aload_n hx hb dL_law_1090 rfl (lv_at hl 3 rfl) ?_
  refine lv_iload_n hx hb dL_law_1091 rfl (lv_at hl 0 rfl) ?_
  refine lv_iconst (v := 1) hx hb dL_law_1092 (by decide) ?_
  refine lv_iadd hx hb dL_law_1093 ?_
  refine lv_topi (fun zi1 ezi1 => ?_)
  have hzi1 : zi1.toInt = i.toInt + 1 := by rw [ezi1]; have : ((1 : Int32).toInt) = 1 := (by decide); have := ia_lo i; have := ia_hi i; exact (ia_add (by omega) (by omega)).trans (by omega)
  have h_1093 := trivial
  refine va_sld hx hb hX hbl hbA hS (i := zi1) (vp_in_iff.mpr ⟨by omega, by omega⟩) dL_law_1094 ?_
  obtain ⟨xs2, exs2⟩ : ∃ z : Int32, xs (Int32.toNatClampNeg zi1) = z := ⟨_, rfl⟩
  rw [exs2]
  refine lv_aload_n hx hb dL_law_1095 rfl (lv_at hl 3 rfl) ?_
  refine lv_iload_n hx hb dL_law_1096 rfl (lv_at hl 0 rfl) ?_
  refine lv_iconst (v := 2) hx hb dL_law_1097 (by decide) ?_
  refine lv_iadd hx hb dL_law_1098 ?_
  refine lv_topi (fun zi3 ezi3 => ?_)
  have hzi3 : zi3.toInt = i.toInt + 2 := by rw [ezi3]; have : ((2 : Int32).toInt) = 2 := (by decide); have := ia_lo i; have := ia_hi i; exact (ia_add (by omega) (by omega)).trans (by omega)
  have h_1098 := trivial
  refine va_sld hx hb hX hbl hbA hS (i := zi3) (vp_in_iff.mpr ⟨by omega, by omega⟩) dL_law_1099 ?_
  obtain ⟨xs4, exs4⟩ : ∃ z : Int32, xs (Int32.toNatClampNeg zi3) = z := ⟨_, rfl⟩
  rw [exs4]
  obtain ⟨xi5, hxi5, hxi5a, hxi5b⟩ := tw_rd TH hmm hkm (by decide) (by decide) (k := 1) rfl
  obtain ⟨xi6, hxi6, hxi6a, hxi6b⟩ := tw_rd TH hmm hkm (by decide) (by decide) (k := 14) rfl
  have TH0 := TH
  have hT0 := TH.2.2
  refine tw_Vc (o := xq) (ci := 11) (n := 2) (post := (fun v kq Lq Eq => (∃ x : Int32, v = some (.int x)) ∧ kp = kq ∧ L = Lq ∧ E = Eq)) (As := [.int xs2, .int xs4]) (rest := []) ⟨hx, hb, hml, hown, hB⟩ (fun sz => tX11_parent l D cs xq xs2 xs4 hmx hkx sz) cg_L_144_X11_parent rfl rfl (by decide +kernel) ⟨Nat.le_of_ble_eq_true rfl, Nat.le_of_ble_eq_true rfl⟩ hK hN TH hS hA rfl hmx hkx (by decide) rfl hl.1 rfl (Nat.le_of_ble_eq_true rfl) dL_law_1100 ⟨(by show _ ≤ 600000; omega), (by show _ ≤ 7302250; omega)⟩ (fun v7 kp7 L7 E7 H locs hq7 hx7 TH hS => ?_)
  obtain ⟨⟨xc8, rfl⟩, rfl, rfl, rfl⟩ := hq7
  refine W.eq (g2 := F0 m 1103 ls [.int xc8]) rfl ?_
  refine lv_pop hx hb dL_law_1103 rfl ?_
  refine lv_aload_n hx hb dL_law_1104 rfl (lv_at hl 1 rfl) ?_
  refine lv_aload_n hx hb dL_law_1105 rfl (lv_at hl 3 rfl) ?_
  refine lv_iload_n hx hb dL_law_1106 rfl (lv_at hl 0 rfl) ?_
  refine lv_iconst (v := 1) hx hb dL_law_1107 (by decide) ?_
  refine lv_iadd hx hb dL_law_1108 ?_
  refine lv_topi (fun zi9 ezi9 => ?_)
  have hzi9 : zi9.toInt = i.toInt + 1 := by rw [ezi9]; have : ((1 : Int32).toInt) = 1 := (by decide); have := ia_lo i; have := ia_hi i; exact (ia_add (by omega) (by omega)).trans (by omega)
  have h_1108 := trivial
  refine va_sld hx hb hX hbl hbA hS (i := zi9) (vp_in_iff.mpr ⟨by omega, by omega⟩) dL_law_1109 ?_
  obtain ⟨xs10, exs10⟩ : ∃ z : Int32, xs (Int32.toNatClampNeg zi9) = z := ⟨_, rfl⟩
  rw [exs10]
  have qxs10 : xs2 = xs10 := by rw [← exs10, ← exs2, ia_ext (a := zi9) (b := zi1) (by omega)]
  subst qxs10
  refine lv_aload_n hx hb dL_law_1110 rfl (lv_at hl 3 rfl) ?_
  refine lv_iload_n hx hb dL_law_1111 rfl (lv_at hl 0 rfl) ?_
  refine lv_iconst (v := 2) hx hb dL_law_1112 (by decide) ?_
  refine lv_iadd hx hb dL_law_1113 ?_
  refine lv_topi (fun zi11 ezi11 => ?_)
  have hzi11 : zi11.toInt = i.toInt + 2 := by rw [ezi11]; have : ((2 : Int32).toInt) = 2 := (by decide); have := ia_lo i; have := ia_hi i; exact (ia_add (by omega) (by omega)).trans (by omega)
  have h_1113 := trivial
  refine va_sld hx hb hX hbl hbA hS (i := zi11) (vp_in_iff.mpr ⟨by omega, by omega⟩) dL_law_1114 ?_
  obtain ⟨xs12, exs12⟩ : ∃ z : Int32, xs (Int32.toNatClampNeg zi11) = z := ⟨_, rfl⟩
  rw [exs12]
  have qxs12 : xs4 = xs12 := by rw [← exs12, ← exs4, ia_ext (a := zi11) (b := zi3) (by omega)]
  subst qxs12
  have TH1 := TH
  have hT1 := TH.2.2
  refine tw_Vc (o := mq) (ci := 12) (n := 2) (post := (fun v kq Lq Eq => (∃ x : Int32, v = some (.int x)) ∧ kp = kq ∧ L = Lq ∧ E = Eq)) (As := [.int xs2, .int xs4]) (rest := []) ⟨hx, hb, hml, hown, hB⟩ (fun sz => tX12_parent l D cs mq xs2 xs4 hmm hkm sz) cg_L_147_X12_parent rfl rfl (by decide +kernel) ⟨Nat.le_of_ble_eq_true rfl, Nat.le_of_ble_eq_true rfl⟩ hK hN TH hS hA rfl hmm hkm (by decide) rfl hl.1 rfl (Nat.le_of_ble_eq_true rfl) dL_law_1115 ⟨(by show _ ≤ 600000; omega), (by show _ ≤ 7302250; omega)⟩ (fun v13 kp13 L13 E13 H locs hq13 hx13 TH hS => ?_)
  obtain ⟨⟨xc14, rfl⟩, rfl, rfl, rfl⟩ := hq13
  refine W.eq (g2 := F0 m 1118 ls [.int xc14]) rfl ?_
  refine lv_pop hx hb dL_law_1118 rfl ?_
  refine lv_goto (tgt := 1178) hx hb dL_law_1119 (by decide) ?_
  exact kk _ _ _ _ _ _ _ (by omega) (by omega) ⟨hmx, hkx, hmm, hkm, g1, g2, g3, ⟨r0, r1, r2, r3, r4, r5, r6, r7, r8, r9⟩, hJ⟩ TH hS
set_option maxHeartbeats 4000000 in
set_option maxRecDepth 100000 in
theorem lop_30 {p : Program} {l : Launch} {e : Env} {s : State} {m : MethodId} {below : List Frame} {meth : Method} {c : Code} {D : va_G} {cs : Nat → ClassId} {A : Nat → Prop} {b Len : Nat} {xs : Nat → Int32} (hx : p.tables.exec = Jvm.exec) (hb : c.code = cL_law) (hr : meth.sig.returnType = ret) (hml : c.maxLocals = 4) (hB : ∀ w ∈ cx_big, w.before #[Value.ref b] s = true) (hown : s.vm.findClass "TreeMergeLaw" = some m.cls) (hlocks : meth.locks = false) (hK : va_K D vwCl (cx_TY cs) s) (hN : tw_NZ D A s s.heap) (hA : ∀ q : Nat, s.heap.size ≤ q → A q) (hA2 : ∀ q : Nat, A q → s.heap.size ≤ q) (hbA : ¬ A b) (hbl : b < s.heap.size) (hX : va_X b Len xs s s.heap) (hLen : Len ≤ 3072) {xq mq : Nat} {kp : Nat → Nat} {L : List Nat} {E : Nat → va_E} (i : Int32) (hi0 : 0 ≤ i.toInt) {cells slots : Nat} (hc : cells + 12 ≤ 600000) (hs : slots + 360 ≤ 7302250) {H : Heap} {locs : List Loc} {ls : Array Slot} (I : lv_I kp L E xq mq) (TH : tw_H D cs kp L E A H) (hS : va_S A s.heap H locs) (hl : lv_has ls 4 [(3, .int i), (2, .ref mq), (1, .ref xq), (0, .ref b)]) (hi1 : i.toInt + 6 ≤ Len) (kk : ∀ (kp1 : Nat → Nat) (L1 : List Nat) (E1 : Nat → va_E) (H1 : Heap) (locs1 : List Loc) (cells1 slots1 : Nat), cells1 ≤ cells + 12 → slots1 ≤ slots + 360 → lv_I kp1 L1 E1 xq mq → tw_H D cs kp1 L1 E1 A H1 → va_S A s.heap H1 locs1 → W p l e room_1 s m #[Value.ref b] below meth c H1 locs1 cells1 slots1 (lw_Z below #[Value.ref b] s) (F0 m 1178 ls [])) : W p l e room_1 s m #[Value.ref b] below meth c H locs cells slots (lw_Z below #[Value.ref b] s) (F0 m 1122 ls []) := by
  obtain ⟨hmx, hkx, hmm, hkm, g1, g2, g3, ⟨r0, r1, r2, r3, r4, r5, r6, r7, r8, r9⟩, hJ⟩ := I
  have hJ0 := hJ
  refine lv_aload_n hx hb dL_law_1122 rfl (lv_at hl 2 rfl) ?_
  refine lv_aload_n hx hb dL_law_1123 rfl (lv_at hl 3 rfl) ?_
  refine lv_iload_n hx hb dL_law_1124 rfl (lv_at hl 0 rfl) ?_
  refine lv_iconst (v := 1) hx hb dL_law_1125 (by decide) ?_
  refine lv_iadd hx hb dL_law_1126 ?_
  refine lv_topi (fun zi1 ezi1 => ?_)
  have hzi1 : zi1.toInt = i.toInt + 1 := by rw [ezi1]; have : ((1 : Int32).toInt) = 1 := (by decide); have := ia_lo i; have := ia_hi i; exact (ia_add (by omega) (by omega)).trans (by omega)
  have h_1126 := trivial
  refine va_sld hx hb hX hbl hbA hS (i := zi1) (vp_in_iff.mpr ⟨by omega, by omega⟩) dL_law_1127 ?_
  obtain ⟨xs2, exs2⟩ : ∃ z : Int32, xs (Int32.toNatClampNeg zi1) = z := ⟨_, rfl⟩
  rw [exs2]
  refine lv_aload_n hx hb dL_law_1128 rfl (lv_at hl 3 rfl) ?_
  refine lv_iload_n hx hb dL_law_1129 rfl (lv_at hl 0 rfl) ?_
  refine lv_iconst (v := 2) hx hb dL_law_1130 (by decide) ?_
  refine lv_iadd hx hb dL_law_1131 ?_
  refine lv_topi (fun zi3 ezi3 => ?_)
  have hzi3 : zi3.toInt = i.toInt + 2 := by rw [ezi3]; have : ((2 : Int32).toInt) = 2 := (by decide); have := ia_lo i; have := ia_hi i; exact (ia_add (by omega) (by omega)).trans (by omega)
  have h_1131 := trivial
  refine va_sld hx hb hX hbl hbA hS (i := zi3) (vp_in_iff.mpr ⟨by omega, by omega⟩) dL_law_1132 ?_
  obtain ⟨xs4, exs4⟩ : ∃ z : Int32, xs (Int32.toNatClampNeg zi3) = z := ⟨_, rfl⟩
  rw [exs4]
  obtain ⟨xi5, hxi5, hxi5a, hxi5b⟩ := tw_rd TH hmm hkm (by decide) (by decide) (k := 1) rfl
  obtain ⟨xi6, hxi6, hxi6a, hxi6b⟩ := tw_rd TH hmm hkm (by decide) (by decide) (k := 14) rfl
  have TH0 := TH
  have hT0 := TH.2.2
  refine tw_Vc (o := xq) (ci := 11) (n := 2) (post := (fun v kq Lq Eq => (∃ x : Int32, v = some (.int x) ∧ 0 ≤ x.toInt ∧ x.toInt ≤ 1) ∧ kp = kq ∧ L = Lq ∧ E = Eq)) (As := [.int xs2, .int xs4]) (rest := []) ⟨hx, hb, hml, hown, hB⟩ (fun sz => tX11_from l D cs xq xs2 xs4 hmx hkx sz) cg_L_148_X11_from rfl rfl (by decide +kernel) ⟨Nat.le_of_ble_eq_true rfl, Nat.le_of_ble_eq_true rfl⟩ hK hN TH hS hA rfl hmx hkx (by decide) rfl hl.1 rfl (Nat.le_of_ble_eq_true rfl) dL_law_1133 ⟨(by show _ ≤ 600000; omega), (by show _ ≤ 7302250; omega)⟩ (fun v7 kp7 L7 E7 H locs hq7 hx7 TH hS => ?_)
  obtain ⟨⟨xc8, rfl, hxc8a, hxc8b⟩, rfl, rfl, rfl⟩ := hq7
  refine W.eq (g2 := F0 m 1136 ls [.int xc8]) rfl ?_
  refine lv_pop hx hb dL_law_1136 rfl ?_
  refine lv_aload_n hx hb dL_law_1137 rfl (lv_at hl 1 rfl) ?_
  refine lv_aload_n hx hb dL_law_1138 rfl (lv_at hl 3 rfl) ?_
  refine lv_iload_n hx hb dL_law_1139 rfl (lv_at hl 0 rfl) ?_
  refine lv_iconst (v := 1) hx hb dL_law_1140 (by decide) ?_
  refine lv_iadd hx hb dL_law_1141 ?_
  refine lv_topi (fun zi9 ezi9 => ?_)
  have hzi9 : zi9.toInt = i.toInt + 1 := by rw [ezi9]; have : ((1 : Int32).toInt) = 1 := (by decide); have := ia_lo i; have := ia_hi i; exact (ia_add (by omega) (by omega)).trans (by omega)
  have h_1141 := trivial
  refine va_sld hx hb hX hbl hbA hS (i := zi9) (vp_in_iff.mpr ⟨by omega, by omega⟩) dL_law_1142 ?_
  obtain ⟨xs10, exs10⟩ : ∃ z : Int32, xs (Int32.toNatClampNeg zi9) = z := ⟨_, rfl⟩
  rw [exs10]
  have qxs10 : xs2 = xs10 := by rw [← exs10, ← exs2, ia_ext (a := zi9) (b := zi1) (by omega)]
  subst qxs10
  refine lv_aload_n hx hb dL_law_1143 rfl (lv_at hl 3 rfl) ?_
  refine lv_iload_n hx hb dL_law_1144 rfl (lv_at hl 0 rfl) ?_
  refine lv_iconst (v := 2) hx hb dL_law_1145 (by decide) ?_
  refine lv_iadd hx hb dL_law_1146 ?_
  refine lv_topi (fun zi11 ezi11 => ?_)
  have hzi11 : zi11.toInt = i.toInt + 2 := by rw [ezi11]; have : ((2 : Int32).toInt) = 2 := (by decide); have := ia_lo i; have := ia_hi i; exact (ia_add (by omega) (by omega)).trans (by omega)
  have h_1146 := trivial
  refine va_sld hx hb hX hbl hbA hS (i := zi11) (vp_in_iff.mpr ⟨by omega, by omega⟩) dL_law_1147 ?_
  obtain ⟨xs12, exs12⟩ : ∃ z : Int32, xs (Int32.toNatClampNeg zi11) = z := ⟨_, rfl⟩
  rw [exs12]
  have qxs12 : xs4 = xs12 := by rw [← exs12, ← exs4, ia_ext (a := zi11) (b := zi3) (by omega)]
  subst qxs12
  have TH1 := TH
  have hT1 := TH.2.2
  refine tw_Vc (o := mq) (ci := 12) (n := 2) (post := (fun v kq Lq Eq => (∃ x : Int32, v = some (.int x) ∧ 0 ≤ x.toInt ∧ x.toInt ≤ 1) ∧ kp = kq ∧ L = Lq ∧ E = Eq)) (As := [.int xs2, .int xs4]) (rest := []) ⟨hx, hb, hml, hown, hB⟩ (fun sz => tX12_from l D cs mq xs2 xs4 hmm hkm r1 r4 sz) cg_L_151_X12_from rfl rfl (by decide +kernel) ⟨Nat.le_of_ble_eq_true rfl, Nat.le_of_ble_eq_true rfl⟩ hK hN TH hS hA rfl hmm hkm (by decide) rfl hl.1 rfl (Nat.le_of_ble_eq_true rfl) dL_law_1148 ⟨(by show _ ≤ 600000; omega), (by show _ ≤ 7302250; omega)⟩ (fun v13 kp13 L13 E13 H locs hq13 hx13 TH hS => ?_)
  obtain ⟨⟨xc14, rfl, hxc14a, hxc14b⟩, rfl, rfl, rfl⟩ := hq13
  refine W.eq (g2 := F0 m 1151 ls [.int xc14]) rfl ?_
  refine lv_pop hx hb dL_law_1151 rfl ?_
  refine lv_goto (tgt := 1178) hx hb dL_law_1152 (by decide) ?_
  exact kk _ _ _ _ _ _ _ (by omega) (by omega) ⟨hmx, hkx, hmm, hkm, g1, g2, g3, ⟨r0, r1, r2, r3, r4, r5, r6, r7, r8, r9⟩, hJ⟩ TH hS
set_option maxHeartbeats 4000000 in
set_option maxRecDepth 100000 in
theorem lop_31 {p : Program} {l : Launch} {e : Env} {s : State} {m : MethodId} {below : List Frame} {meth : Method} {c : Code} {D : va_G} {cs : Nat → ClassId} {A : Nat → Prop} {b Len : Nat} {xs : Nat → Int32} (hx : p.tables.exec = Jvm.exec) (hb : c.code = cL_law) (hr : meth.sig.returnType = ret) (hml : c.maxLocals = 4) (hB : ∀ w ∈ cx_big, w.before #[Value.ref b] s = true) (hown : s.vm.findClass "TreeMergeLaw" = some m.cls) (hlocks : meth.locks = false) (hK : va_K D vwCl (cx_TY cs) s) (hN : tw_NZ D A s s.heap) (hA : ∀ q : Nat, s.heap.size ≤ q → A q) (hA2 : ∀ q : Nat, A q → s.heap.size ≤ q) (hbA : ¬ A b) (hbl : b < s.heap.size) (hX : va_X b Len xs s s.heap) (hLen : Len ≤ 3072) {xq mq : Nat} {kp : Nat → Nat} {L : List Nat} {E : Nat → va_E} (i : Int32) (hi0 : 0 ≤ i.toInt) {cells slots : Nat} (hc : cells + 12 ≤ 600000) (hs : slots + 360 ≤ 7302250) {H : Heap} {locs : List Loc} {ls : Array Slot} (I : lv_I kp L E xq mq) (TH : tw_H D cs kp L E A H) (hS : va_S A s.heap H locs) (hl : lv_has ls 4 [(3, .int i), (2, .ref mq), (1, .ref xq), (0, .ref b)]) (hi1 : i.toInt + 6 ≤ Len) (kk : ∀ (kp1 : Nat → Nat) (L1 : List Nat) (E1 : Nat → va_E) (H1 : Heap) (locs1 : List Loc) (cells1 slots1 : Nat), cells1 ≤ cells + 12 → slots1 ≤ slots + 360 → lv_I kp1 L1 E1 xq mq → tw_H D cs kp1 L1 E1 A H1 → va_S A s.heap H1 locs1 → W p l e room_1 s m #[Value.ref b] below meth c H1 locs1 cells1 slots1 (lw_Z below #[Value.ref b] s) (F0 m 1178 ls [])) : W p l e room_1 s m #[Value.ref b] below meth c H locs cells slots (lw_Z below #[Value.ref b] s) (F0 m 1155 ls []) := by
  obtain ⟨hmx, hkx, hmm, hkm, g1, g2, g3, ⟨r0, r1, r2, r3, r4, r5, r6, r7, r8, r9⟩, hJ⟩ := I
  have hJ0 := hJ
  refine lv_aload_n hx hb dL_law_1155 rfl (lv_at hl 2 rfl) ?_
  refine lv_aload_n hx hb dL_law_1156 rfl (lv_at hl 3 rfl) ?_
  refine lv_iload_n hx hb dL_law_1157 rfl (lv_at hl 0 rfl) ?_
  refine lv_iconst (v := 1) hx hb dL_law_1158 (by decide) ?_
  refine lv_iadd hx hb dL_law_1159 ?_
  refine lv_topi (fun zi1 ezi1 => ?_)
  have hzi1 : zi1.toInt = i.toInt + 1 := by rw [ezi1]; have : ((1 : Int32).toInt) = 1 := (by decide); have := ia_lo i; have := ia_hi i; exact (ia_add (by omega) (by omega)).trans (by omega)
  have h_1159 := trivial
  refine va_sld hx hb hX hbl hbA hS (i := zi1) (vp_in_iff.mpr ⟨by omega, by omega⟩) dL_law_1160 ?_
  obtain ⟨xs2, exs2⟩ : ∃ z : Int32, xs (Int32.toNatClampNeg zi1) = z := ⟨_, rfl⟩
  rw [exs2]
  obtain ⟨xi3, hxi3, hxi3a, hxi3b⟩ := tw_rd TH hmm hkm (by decide) (by decide) (k := 1) rfl
  obtain ⟨xi4, hxi4, hxi4a, hxi4b⟩ := tw_rd TH hmm hkm (by decide) (by decide) (k := 14) rfl
  have TH0 := TH
  have hT0 := TH.2.2
  refine tw_Vc (o := xq) (ci := 11) (n := 1) (post := (fun v kq Lq Eq => (∃ x : Int32, v = some (.int x)) ∧ kp = kq ∧ L = Lq ∧ E = Eq)) (As := [.int xs2]) (rest := []) ⟨hx, hb, hml, hown, hB⟩ (fun sz => tX11_count l D cs xq xs2 hmx hkx sz) cg_L_152_X11_count rfl rfl (by decide +kernel) ⟨Nat.le_of_ble_eq_true rfl, Nat.le_of_ble_eq_true rfl⟩ hK hN TH hS hA rfl hmx hkx (by decide) rfl hl.1 rfl (Nat.le_of_ble_eq_true rfl) dL_law_1161 ⟨(by show _ ≤ 600000; omega), (by show _ ≤ 7302250; omega)⟩ (fun v5 kp5 L5 E5 H locs hq5 hx5 TH hS => ?_)
  obtain ⟨⟨xc6, rfl⟩, rfl, rfl, rfl⟩ := hq5
  refine W.eq (g2 := F0 m 1164 ls [.int xc6]) rfl ?_
  refine lv_pop hx hb dL_law_1164 rfl ?_
  refine lv_aload_n hx hb dL_law_1165 rfl (lv_at hl 1 rfl) ?_
  refine lv_aload_n hx hb dL_law_1166 rfl (lv_at hl 3 rfl) ?_
  refine lv_iload_n hx hb dL_law_1167 rfl (lv_at hl 0 rfl) ?_
  refine lv_iconst (v := 1) hx hb dL_law_1168 (by decide) ?_
  refine lv_iadd hx hb dL_law_1169 ?_
  refine lv_topi (fun zi7 ezi7 => ?_)
  have hzi7 : zi7.toInt = i.toInt + 1 := by rw [ezi7]; have : ((1 : Int32).toInt) = 1 := (by decide); have := ia_lo i; have := ia_hi i; exact (ia_add (by omega) (by omega)).trans (by omega)
  have h_1169 := trivial
  refine va_sld hx hb hX hbl hbA hS (i := zi7) (vp_in_iff.mpr ⟨by omega, by omega⟩) dL_law_1170 ?_
  obtain ⟨xs8, exs8⟩ : ∃ z : Int32, xs (Int32.toNatClampNeg zi7) = z := ⟨_, rfl⟩
  rw [exs8]
  have qxs8 : xs2 = xs8 := by rw [← exs8, ← exs2, ia_ext (a := zi7) (b := zi1) (by omega)]
  subst qxs8
  have TH1 := TH
  have hT1 := TH.2.2
  refine tw_Vc (o := mq) (ci := 12) (n := 1) (post := (fun v kq Lq Eq => (∃ x : Int32, v = some (.int x)) ∧ kp = kq ∧ L = Lq ∧ E = Eq)) (As := [.int xs2]) (rest := []) ⟨hx, hb, hml, hown, hB⟩ (fun sz => tX12_count l D cs mq xs2 hmm hkm sz) cg_L_155_X12_count rfl rfl (by decide +kernel) ⟨Nat.le_of_ble_eq_true rfl, Nat.le_of_ble_eq_true rfl⟩ hK hN TH hS hA rfl hmm hkm (by decide) rfl hl.1 rfl (Nat.le_of_ble_eq_true rfl) dL_law_1171 ⟨(by show _ ≤ 600000; omega), (by show _ ≤ 7302250; omega)⟩ (fun v9 kp9 L9 E9 H locs hq9 hx9 TH hS => ?_)
  obtain ⟨⟨xc10, rfl⟩, rfl, rfl, rfl⟩ := hq9
  refine W.eq (g2 := F0 m 1174 ls [.int xc10]) rfl ?_
  refine lv_pop hx hb dL_law_1174 rfl ?_
  refine lv_goto (tgt := 1178) hx hb dL_law_1175 (by decide) ?_
  exact kk _ _ _ _ _ _ _ (by omega) (by omega) ⟨hmx, hkx, hmm, hkm, g1, g2, g3, ⟨r0, r1, r2, r3, r4, r5, r6, r7, r8, r9⟩, hJ⟩ TH hS
set_option maxHeartbeats 4000000 in
set_option maxRecDepth 100000 in
theorem law_head {p : Program} {l : Launch} {e : Env} {s : State} {m : MethodId} {below : List Frame} {meth : Method} {c : Code} {D : va_G} {cs : Nat → ClassId} {A : Nat → Prop} {b Len : Nat} {xs : Nat → Int32} (hx : p.tables.exec = Jvm.exec) (hb : c.code = cL_law) (hr : meth.sig.returnType = ret) (hml : c.maxLocals = 4) (hB : ∀ w ∈ cx_big, w.before #[Value.ref b] s = true) (hown : s.vm.findClass "TreeMergeLaw" = some m.cls) (hlocks : meth.locks = false) (hK : va_K D vwCl (cx_TY cs) s) (hN : tw_NZ D A s s.heap) (hA : ∀ q : Nat, s.heap.size ≤ q → A q) (hA2 : ∀ q : Nat, A q → s.heap.size ≤ q) (hbA : ¬ A b) (hbl : b < s.heap.size) (hX : va_X b Len xs s s.heap) (hLen : Len ≤ 3072) {xq mq : Nat} {kp : Nat → Nat} {L : List Nat} {E : Nat → va_E} (i : Int32) (hi0 : 0 ≤ i.toInt) {cells slots : Nat} (hc : cells + 12 ≤ 600000) (hs : slots + 360 ≤ 7302250) {H : Heap} {locs : List Loc} {ls : Array Slot} (I : lv_I kp L E xq mq) (TH : tw_H D cs kp L E A H) (hS : va_S A s.heap H locs) (hl : lv_has ls 4 [(3, .int i), (2, .ref mq), (1, .ref xq), (0, .ref b)]) (kk : ∀ (kp1 : Nat → Nat) (L1 : List Nat) (E1 : Nat → va_E) (H1 : Heap) (locs1 : List Loc) (cells1 slots1 : Nat), cells1 ≤ cells + 12 → slots1 ≤ slots + 360 → i.toInt + 6 ≤ Len → lv_I kp1 L1 E1 xq mq → tw_H D cs kp1 L1 E1 A H1 → va_S A s.heap H1 locs1 → W p l e room_1 s m #[Value.ref b] below meth c H1 locs1 cells1 slots1 (lw_Z below #[Value.ref b] s) (F0 m 1178 ls [])) (ex : ∀ ls : Array Slot, lv_has ls 4 [(3, .int i), (2, .ref mq), (1, .ref xq), (0, .ref b)] → W p l e room_1 s m #[Value.ref b] below meth c H locs cells slots (lw_Z below #[Value.ref b] s) (F0 m 1184 ls [])) : W p l e room_1 s m #[Value.ref b] below meth c H locs cells slots (lw_Z below #[Value.ref b] s) (F0 m 18 ls []) := by
  obtain ⟨hmx, hkx, hmm, hkm, g1, g2, g3, ⟨r0, r1, r2, r3, r4, r5, r6, r7, r8, r9⟩, hJ⟩ := I
  have hJ0 := hJ
  refine lv_iload_n hx hb dL_law_18 rfl (lv_at hl 0 rfl) ?_
  refine lv_aload_n hx hb dL_law_19 rfl (lv_at hl 3 rfl) ?_
  refine va_slen hx hb hX hbl hbA hS dL_law_20 ?_
  refine lv_topi (fun zn1 ezn1 => ?_)
  have hzn1 : zn1.toInt = (Len : Int) := by rw [ezn1]; exact nI_toInt (by omega)
  refine lv_bipush (v := 6) hx hb dL_law_21 (by decide) ?_
  refine lv_isub hx hb dL_law_23 ?_
  refine lv_topi (fun zi2 ezi2 => ?_)
  have hzi2 : zi2.toInt = zn1.toInt - 6 := by rw [ezi2]; have : ((6 : Int32).toInt) = 6 := (by decide); have := ia_lo zn1; have := ia_hi zn1; exact (ia_sub (by omega) (by omega)).trans (by omega)
  refine lv_icmp_gt (tgt := 1184) hx hb dL_law_24 (by decide) (fun hc3 => ?_) (fun hc3 => ?_)
  · have hf4 : zi2.toInt < i.toInt := by have z := (fa_lt _ _).mp hc3;  omega
    exact ex ls hl
  · have hf5 : ¬ (zi2.toInt < i.toInt) := fun q => hc3 ((fa_lt _ _).mpr (by  omega))
    refine lv_aload_n hx hb dL_law_27 rfl (lv_at hl 3 rfl) ?_
    refine lv_iload_n hx hb dL_law_28 rfl (lv_at hl 0 rfl) ?_
    refine va_sld hx hb hX hbl hbA hS (i := i) (vp_in_iff.mpr ⟨by omega, by omega⟩) dL_law_29 ?_
    obtain ⟨xs6, exs6⟩ : ∃ z : Int32, xs (Int32.toNatClampNeg i) = z := ⟨_, rfl⟩
    rw [exs6]
    refine lv_bipush (v := 31) hx hb dL_law_30 (by decide) ?_
    refine lv_iand hx hb dL_law_32 ?_
    refine lv_topi (fun zi7 ezi7 => ?_)
    have hzi7 : 0 ≤ zi7.toInt ∧ zi7.toInt ≤ 31 := by rw [ezi7]; exact ia_and31 _
    by_cases hc8_0 : zi7 = 0
    · refine lv_tableIn (x := zi7) (off := 143) (tgt := 176) hx hb dL_law_33 (by rw [hc8_0]; decide) (by rw [hc8_0]; decide) (by rw [hc8_0]; decide) (by decide) ?_
      exact lop_0 hx hb hr hml hB hown hlocks hK hN hA hA2 hbA hbl hX hLen i hi0 hc hs ⟨hmx, hkx, hmm, hkm, g1, g2, g3, ⟨r0, r1, r2, r3, r4, r5, r6, r7, r8, r9⟩, hJ⟩ TH hS hl (by omega) (fun k1 k2 k3 k4 k5 k6 k7 h1 h2 h3 h4 h5 => kk k1 k2 k3 k4 k5 k6 k7 h1 h2 (by omega) h3 h4 h5)
    by_cases hc8_1 : zi7 = 1
    · refine lv_tableIn (x := zi7) (off := 206) (tgt := 239) hx hb dL_law_33 (by rw [hc8_1]; decide) (by rw [hc8_1]; decide) (by rw [hc8_1]; decide) (by decide) ?_
      exact lop_1 hx hb hr hml hB hown hlocks hK hN hA hA2 hbA hbl hX hLen i hi0 hc hs ⟨hmx, hkx, hmm, hkm, g1, g2, g3, ⟨r0, r1, r2, r3, r4, r5, r6, r7, r8, r9⟩, hJ⟩ TH hS hl (by omega) (fun k1 k2 k3 k4 k5 k6 k7 h1 h2 h3 h4 h5 => kk k1 k2 k3 k4 k5 k6 k7 h1 h2 (by omega) h3 h4 h5)
    by_cases hc8_2 : zi7 = 2
    · refine lv_tableIn (x := zi7) (off := 229) (tgt := 262) hx hb dL_law_33 (by rw [hc8_2]; decide) (by rw [hc8_2]; decide) (by rw [hc8_2]; decide) (by decide) ?_
      exact lop_2 hx hb hr hml hB hown hlocks hK hN hA hA2 hbA hbl hX hLen i hi0 hc hs ⟨hmx, hkx, hmm, hkm, g1, g2, g3, ⟨r0, r1, r2, r3, r4, r5, r6, r7, r8, r9⟩, hJ⟩ TH hS hl (by omega) (fun k1 k2 k3 k4 k5 k6 k7 h1 h2 h3 h4 h5 => kk k1 k2 k3 k4 k5 k6 k7 h1 h2 (by omega) h3 h4 h5)
    by_cases hc8_3 : zi7 = 3
    · refine lv_tableIn (x := zi7) (off := 268) (tgt := 301) hx hb dL_law_33 (by rw [hc8_3]; decide) (by rw [hc8_3]; decide) (by rw [hc8_3]; decide) (by decide) ?_
      exact lop_3 hx hb hr hml hB hown hlocks hK hN hA hA2 hbA hbl hX hLen i hi0 hc hs ⟨hmx, hkx, hmm, hkm, g1, g2, g3, ⟨r0, r1, r2, r3, r4, r5, r6, r7, r8, r9⟩, hJ⟩ TH hS hl (by omega) (fun k1 k2 k3 k4 k5 k6 k7 h1 h2 h3 h4 h5 => kk k1 k2 k3 k4 k5 k6 k7 h1 h2 (by omega) h3 h4 h5)
    by_cases hc8_4 : zi7 = 4
    · refine lv_tableIn (x := zi7) (off := 281) (tgt := 314) hx hb dL_law_33 (by rw [hc8_4]; decide) (by rw [hc8_4]; decide) (by rw [hc8_4]; decide) (by decide) ?_
      exact lop_4 hx hb hr hml hB hown hlocks hK hN hA hA2 hbA hbl hX hLen i hi0 hc hs ⟨hmx, hkx, hmm, hkm, g1, g2, g3, ⟨r0, r1, r2, r3, r4, r5, r6, r7, r8, r9⟩, hJ⟩ TH hS hl (by omega) (fun k1 k2 k3 k4 k5 k6 k7 h1 h2 h3 h4 h5 => kk k1 k2 k3 k4 k5 k6 k7 h1 h2 (by omega) h3 h4 h5)
    by_cases hc8_5 : zi7 = 5
    · refine lv_tableIn (x := zi7) (off := 294) (tgt := 327) hx hb dL_law_33 (by rw [hc8_5]; decide) (by rw [hc8_5]; decide) (by rw [hc8_5]; decide) (by decide) ?_
      exact lop_5 hx hb hr hml hB hown hlocks hK hN hA hA2 hbA hbl hX hLen i hi0 hc hs ⟨hmx, hkx, hmm, hkm, g1, g2, g3, ⟨r0, r1, r2, r3, r4, r5, r6, r7, r8, r9⟩, hJ⟩ TH hS hl (by omega) (fun k1 k2 k3 k4 k5 k6 k7 h1 h2 h3 h4 h5 => kk k1 k2 k3 k4 k5 k6 k7 h1 h2 (by omega) h3 h4 h5)
    by_cases hc8_6 : zi7 = 6
    · refine lv_tableIn (x := zi7) (off := 307) (tgt := 340) hx hb dL_law_33 (by rw [hc8_6]; decide) (by rw [hc8_6]; decide) (by rw [hc8_6]; decide) (by decide) ?_
      exact lop_6 hx hb hr hml hB hown hlocks hK hN hA hA2 hbA hbl hX hLen i hi0 hc hs ⟨hmx, hkx, hmm, hkm, g1, g2, g3, ⟨r0, r1, r2, r3, r4, r5, r6, r7, r8, r9⟩, hJ⟩ TH hS hl (by omega) (fun k1 k2 k3 k4 k5 k6 k7 h1 h2 h3 h4 h5 => kk k1 k2 k3 k4 k5 k6 k7 h1 h2 (by omega) h3 h4 h5)
    by_cases hc8_7 : zi7 = 7
    · refine lv_tableIn (x := zi7) (off := 340) (tgt := 373) hx hb dL_law_33 (by rw [hc8_7]; decide) (by rw [hc8_7]; decide) (by rw [hc8_7]; decide) (by decide) ?_
      exact lop_7 hx hb hr hml hB hown hlocks hK hN hA hA2 hbA hbl hX hLen i hi0 hc hs ⟨hmx, hkx, hmm, hkm, g1, g2, g3, ⟨r0, r1, r2, r3, r4, r5, r6, r7, r8, r9⟩, hJ⟩ TH hS hl (by omega) (fun k1 k2 k3 k4 k5 k6 k7 h1 h2 h3 h4 h5 => kk k1 k2 k3 k4 k5 k6 k7 h1 h2 (by omega) h3 h4 h5)
    by_cases hc8_8 : zi7 = 8
    · refine lv_tableIn (x := zi7) (off := 363) (tgt := 396) hx hb dL_law_33 (by rw [hc8_8]; decide) (by rw [hc8_8]; decide) (by rw [hc8_8]; decide) (by decide) ?_
      exact lop_8 hx hb hr hml hB hown hlocks hK hN hA hA2 hbA hbl hX hLen i hi0 hc hs ⟨hmx, hkx, hmm, hkm, g1, g2, g3, ⟨r0, r1, r2, r3, r4, r5, r6, r7, r8, r9⟩, hJ⟩ TH hS hl (by omega) (fun k1 k2 k3 k4 k5 k6 k7 h1 h2 h3 h4 h5 => kk k1 k2 k3 k4 k5 k6 k7 h1 h2 (by omega) h3 h4 h5)
    by_cases hc8_9 : zi7 = 9
    · refine lv_tableIn (x := zi7) (off := 386) (tgt := 419) hx hb dL_law_33 (by rw [hc8_9]; decide) (by rw [hc8_9]; decide) (by rw [hc8_9]; decide) (by decide) ?_
      exact lop_9 hx hb hr hml hB hown hlocks hK hN hA hA2 hbA hbl hX hLen i hi0 hc hs ⟨hmx, hkx, hmm, hkm, g1, g2, g3, ⟨r0, r1, r2, r3, r4, r5, r6, r7, r8, r9⟩, hJ⟩ TH hS hl (by omega) (fun k1 k2 k3 k4 k5 k6 k7 h1 h2 h3 h4 h5 => kk k1 k2 k3 k4 k5 k6 k7 h1 h2 (by omega) h3 h4 h5)
    by_cases hc8_10 : zi7 = 10
    · refine lv_tableIn (x := zi7) (off := 399) (tgt := 432) hx hb dL_law_33 (by rw [hc8_10]; decide) (by rw [hc8_10]; decide) (by rw [hc8_10]; decide) (by decide) ?_
      exact lop_10 hx hb hr hml hB hown hlocks hK hN hA hA2 hbA hbl hX hLen i hi0 hc hs ⟨hmx, hkx, hmm, hkm, g1, g2, g3, ⟨r0, r1, r2, r3, r4, r5, r6, r7, r8, r9⟩, hJ⟩ TH hS hl (by omega) (fun k1 k2 k3 k4 k5 k6 k7 h1 h2 h3 h4 h5 => kk k1 k2 k3 k4 k5 k6 k7 h1 h2 (by omega) h3 h4 h5)
    by_cases hc8_11 : zi7 = 11
    · refine lv_tableIn (x := zi7) (off := 482) (tgt := 515) hx hb dL_law_33 (by rw [hc8_11]; decide) (by rw [hc8_11]; decide) (by rw [hc8_11]; decide) (by decide) ?_
      exact lop_11 hx hb hr hml hB hown hlocks hK hN hA hA2 hbA hbl hX hLen i hi0 hc hs ⟨hmx, hkx, hmm, hkm, g1, g2, g3, ⟨r0, r1, r2, r3, r4, r5, r6, r7, r8, r9⟩, hJ⟩ TH hS hl (by omega) (fun k1 k2 k3 k4 k5 k6 k7 h1 h2 h3 h4 h5 => kk k1 k2 k3 k4 k5 k6 k7 h1 h2 (by omega) h3 h4 h5)
    by_cases hc8_12 : zi7 = 12
    · refine lv_tableIn (x := zi7) (off := 505) (tgt := 538) hx hb dL_law_33 (by rw [hc8_12]; decide) (by rw [hc8_12]; decide) (by rw [hc8_12]; decide) (by decide) ?_
      exact lop_12 hx hb hr hml hB hown hlocks hK hN hA hA2 hbA hbl hX hLen i hi0 hc hs ⟨hmx, hkx, hmm, hkm, g1, g2, g3, ⟨r0, r1, r2, r3, r4, r5, r6, r7, r8, r9⟩, hJ⟩ TH hS hl (by omega) (fun k1 k2 k3 k4 k5 k6 k7 h1 h2 h3 h4 h5 => kk k1 k2 k3 k4 k5 k6 k7 h1 h2 (by omega) h3 h4 h5)
    by_cases hc8_13 : zi7 = 13
    · refine lv_tableIn (x := zi7) (off := 548) (tgt := 581) hx hb dL_law_33 (by rw [hc8_13]; decide) (by rw [hc8_13]; decide) (by rw [hc8_13]; decide) (by decide) ?_
      exact lop_13 hx hb hr hml hB hown hlocks hK hN hA hA2 hbA hbl hX hLen i hi0 hc hs ⟨hmx, hkx, hmm, hkm, g1, g2, g3, ⟨r0, r1, r2, r3, r4, r5, r6, r7, r8, r9⟩, hJ⟩ TH hS hl (by omega) (fun k1 k2 k3 k4 k5 k6 k7 h1 h2 h3 h4 h5 => kk k1 k2 k3 k4 k5 k6 k7 h1 h2 (by omega) h3 h4 h5)
    by_cases hc8_14 : zi7 = 14
    · refine lv_tableIn (x := zi7) (off := 611) (tgt := 644) hx hb dL_law_33 (by rw [hc8_14]; decide) (by rw [hc8_14]; decide) (by rw [hc8_14]; decide) (by decide) ?_
      exact lop_14 hx hb hr hml hB hown hlocks hK hN hA hA2 hbA hbl hX hLen i hi0 hc hs ⟨hmx, hkx, hmm, hkm, g1, g2, g3, ⟨r0, r1, r2, r3, r4, r5, r6, r7, r8, r9⟩, hJ⟩ TH hS hl (by omega) (fun k1 k2 k3 k4 k5 k6 k7 h1 h2 h3 h4 h5 => kk k1 k2 k3 k4 k5 k6 k7 h1 h2 (by omega) h3 h4 h5)
    by_cases hc8_15 : zi7 = 15
    · refine lv_tableIn (x := zi7) (off := 624) (tgt := 657) hx hb dL_law_33 (by rw [hc8_15]; decide) (by rw [hc8_15]; decide) (by rw [hc8_15]; decide) (by decide) ?_
      exact lop_15 hx hb hr hml hB hown hlocks hK hN hA hA2 hbA hbl hX hLen i hi0 hc hs ⟨hmx, hkx, hmm, hkm, g1, g2, g3, ⟨r0, r1, r2, r3, r4, r5, r6, r7, r8, r9⟩, hJ⟩ TH hS hl (by omega) (fun k1 k2 k3 k4 k5 k6 k7 h1 h2 h3 h4 h5 => kk k1 k2 k3 k4 k5 k6 k7 h1 h2 (by omega) h3 h4 h5)
    by_cases hc8_16 : zi7 = 16
    · refine lv_tableIn (x := zi7) (off := 657) (tgt := 690) hx hb dL_law_33 (by rw [hc8_16]; decide) (by rw [hc8_16]; decide) (by rw [hc8_16]; decide) (by decide) ?_
      exact lop_16 hx hb hr hml hB hown hlocks hK hN hA hA2 hbA hbl hX hLen i hi0 hc hs ⟨hmx, hkx, hmm, hkm, g1, g2, g3, ⟨r0, r1, r2, r3, r4, r5, r6, r7, r8, r9⟩, hJ⟩ TH hS hl (by omega) (fun k1 k2 k3 k4 k5 k6 k7 h1 h2 h3 h4 h5 => kk k1 k2 k3 k4 k5 k6 k7 h1 h2 (by omega) h3 h4 h5)
    by_cases hc8_17 : zi7 = 17
    · refine lv_tableIn (x := zi7) (off := 690) (tgt := 723) hx hb dL_law_33 (by rw [hc8_17]; decide) (by rw [hc8_17]; decide) (by rw [hc8_17]; decide) (by decide) ?_
      exact lop_17 hx hb hr hml hB hown hlocks hK hN hA hA2 hbA hbl hX hLen i hi0 hc hs ⟨hmx, hkx, hmm, hkm, g1, g2, g3, ⟨r0, r1, r2, r3, r4, r5, r6, r7, r8, r9⟩, hJ⟩ TH hS hl (by omega) (fun k1 k2 k3 k4 k5 k6 k7 h1 h2 h3 h4 h5 => kk k1 k2 k3 k4 k5 k6 k7 h1 h2 (by omega) h3 h4 h5)
    by_cases hc8_18 : zi7 = 18
    · refine lv_tableIn (x := zi7) (off := 723) (tgt := 756) hx hb dL_law_33 (by rw [hc8_18]; decide) (by rw [hc8_18]; decide) (by rw [hc8_18]; decide) (by decide) ?_
      exact lop_18 hx hb hr hml hB hown hlocks hK hN hA hA2 hbA hbl hX hLen i hi0 hc hs ⟨hmx, hkx, hmm, hkm, g1, g2, g3, ⟨r0, r1, r2, r3, r4, r5, r6, r7, r8, r9⟩, hJ⟩ TH hS hl (by omega) (fun k1 k2 k3 k4 k5 k6 k7 h1 h2 h3 h4 h5 => kk k1 k2 k3 k4 k5 k6 k7 h1 h2 (by omega) h3 h4 h5)
    by_cases hc8_19 : zi7 = 19
    · refine lv_tableIn (x := zi7) (off := 756) (tgt := 789) hx hb dL_law_33 (by rw [hc8_19]; decide) (by rw [hc8_19]; decide) (by rw [hc8_19]; decide) (by decide) ?_
      exact lop_19 hx hb hr hml hB hown hlocks hK hN hA hA2 hbA hbl hX hLen i hi0 hc hs ⟨hmx, hkx, hmm, hkm, g1, g2, g3, ⟨r0, r1, r2, r3, r4, r5, r6, r7, r8, r9⟩, hJ⟩ TH hS hl (by omega) (fun k1 k2 k3 k4 k5 k6 k7 h1 h2 h3 h4 h5 => kk k1 k2 k3 k4 k5 k6 k7 h1 h2 (by omega) h3 h4 h5)
    by_cases hc8_20 : zi7 = 20
    · refine lv_tableIn (x := zi7) (off := 779) (tgt := 812) hx hb dL_law_33 (by rw [hc8_20]; decide) (by rw [hc8_20]; decide) (by rw [hc8_20]; decide) (by decide) ?_
      exact lop_20 hx hb hr hml hB hown hlocks hK hN hA hA2 hbA hbl hX hLen i hi0 hc hs ⟨hmx, hkx, hmm, hkm, g1, g2, g3, ⟨r0, r1, r2, r3, r4, r5, r6, r7, r8, r9⟩, hJ⟩ TH hS hl (by omega) (fun k1 k2 k3 k4 k5 k6 k7 h1 h2 h3 h4 h5 => kk k1 k2 k3 k4 k5 k6 k7 h1 h2 (by omega) h3 h4 h5)
    by_cases hc8_21 : zi7 = 21
    · refine lv_tableIn (x := zi7) (off := 822) (tgt := 855) hx hb dL_law_33 (by rw [hc8_21]; decide) (by rw [hc8_21]; decide) (by rw [hc8_21]; decide) (by decide) ?_
      exact lop_21 hx hb hr hml hB hown hlocks hK hN hA hA2 hbA hbl hX hLen i hi0 hc hs ⟨hmx, hkx, hmm, hkm, g1, g2, g3, ⟨r0, r1, r2, r3, r4, r5, r6, r7, r8, r9⟩, hJ⟩ TH hS hl (by omega) (fun k1 k2 k3 k4 k5 k6 k7 h1 h2 h3 h4 h5 => kk k1 k2 k3 k4 k5 k6 k7 h1 h2 (by omega) h3 h4 h5)
    by_cases hc8_22 : zi7 = 22
    · refine lv_tableIn (x := zi7) (off := 835) (tgt := 868) hx hb dL_law_33 (by rw [hc8_22]; decide) (by rw [hc8_22]; decide) (by rw [hc8_22]; decide) (by decide) ?_
      exact lop_22 hx hb hr hml hB hown hlocks hK hN hA hA2 hbA hbl hX hLen i hi0 hc hs ⟨hmx, hkx, hmm, hkm, g1, g2, g3, ⟨r0, r1, r2, r3, r4, r5, r6, r7, r8, r9⟩, hJ⟩ TH hS hl (by omega) (fun k1 k2 k3 k4 k5 k6 k7 h1 h2 h3 h4 h5 => kk k1 k2 k3 k4 k5 k6 k7 h1 h2 (by omega) h3 h4 h5)
    by_cases hc8_23 : zi7 = 23
    · refine lv_tableIn (x := zi7) (off := 868) (tgt := 901) hx hb dL_law_33 (by rw [hc8_23]; decide) (by rw [hc8_23]; decide) (by rw [hc8_23]; decide) (by decide) ?_
      exact lop_23 hx hb hr hml hB hown hlocks hK hN hA hA2 hbA hbl hX hLen i hi0 hc hs ⟨hmx, hkx, hmm, hkm, g1, g2, g3, ⟨r0, r1, r2, r3, r4, r5, r6, r7, r8, r9⟩, hJ⟩ TH hS hl (by omega) (fun k1 k2 k3 k4 k5 k6 k7 h1 h2 h3 h4 h5 => kk k1 k2 k3 k4 k5 k6 k7 h1 h2 (by omega) h3 h4 h5)
    by_cases hc8_24 : zi7 = 24
    · refine lv_tableIn (x := zi7) (off := 911) (tgt := 944) hx hb dL_law_33 (by rw [hc8_24]; decide) (by rw [hc8_24]; decide) (by rw [hc8_24]; decide) (by decide) ?_
      exact lop_24 hx hb hr hml hB hown hlocks hK hN hA hA2 hbA hbl hX hLen i hi0 hc hs ⟨hmx, hkx, hmm, hkm, g1, g2, g3, ⟨r0, r1, r2, r3, r4, r5, r6, r7, r8, r9⟩, hJ⟩ TH hS hl (by omega) (fun k1 k2 k3 k4 k5 k6 k7 h1 h2 h3 h4 h5 => kk k1 k2 k3 k4 k5 k6 k7 h1 h2 (by omega) h3 h4 h5)
    by_cases hc8_25 : zi7 = 25
    · refine lv_tableIn (x := zi7) (off := 944) (tgt := 977) hx hb dL_law_33 (by rw [hc8_25]; decide) (by rw [hc8_25]; decide) (by rw [hc8_25]; decide) (by decide) ?_
      exact lop_25 hx hb hr hml hB hown hlocks hK hN hA hA2 hbA hbl hX hLen i hi0 hc hs ⟨hmx, hkx, hmm, hkm, g1, g2, g3, ⟨r0, r1, r2, r3, r4, r5, r6, r7, r8, r9⟩, hJ⟩ TH hS hl (by omega) (fun k1 k2 k3 k4 k5 k6 k7 h1 h2 h3 h4 h5 => kk k1 k2 k3 k4 k5 k6 k7 h1 h2 (by omega) h3 h4 h5)
    by_cases hc8_26 : zi7 = 26
    · refine lv_tableIn (x := zi7) (off := 967) (tgt := 1000) hx hb dL_law_33 (by rw [hc8_26]; decide) (by rw [hc8_26]; decide) (by rw [hc8_26]; decide) (by decide) ?_
      exact lop_26 hx hb hr hml hB hown hlocks hK hN hA hA2 hbA hbl hX hLen i hi0 hc hs ⟨hmx, hkx, hmm, hkm, g1, g2, g3, ⟨r0, r1, r2, r3, r4, r5, r6, r7, r8, r9⟩, hJ⟩ TH hS hl (by omega) (fun k1 k2 k3 k4 k5 k6 k7 h1 h2 h3 h4 h5 => kk k1 k2 k3 k4 k5 k6 k7 h1 h2 (by omega) h3 h4 h5)
    by_cases hc8_27 : zi7 = 27
    · refine lv_tableIn (x := zi7) (off := 990) (tgt := 1023) hx hb dL_law_33 (by rw [hc8_27]; decide) (by rw [hc8_27]; decide) (by rw [hc8_27]; decide) (by decide) ?_
      exact lop_27 hx hb hr hml hB hown hlocks hK hN hA hA2 hbA hbl hX hLen i hi0 hc hs ⟨hmx, hkx, hmm, hkm, g1, g2, g3, ⟨r0, r1, r2, r3, r4, r5, r6, r7, r8, r9⟩, hJ⟩ TH hS hl (by omega) (fun k1 k2 k3 k4 k5 k6 k7 h1 h2 h3 h4 h5 => kk k1 k2 k3 k4 k5 k6 k7 h1 h2 (by omega) h3 h4 h5)
    by_cases hc8_28 : zi7 = 28
    · refine lv_tableIn (x := zi7) (off := 1023) (tgt := 1056) hx hb dL_law_33 (by rw [hc8_28]; decide) (by rw [hc8_28]; decide) (by rw [hc8_28]; decide) (by decide) ?_
      exact lop_28 hx hb hr hml hB hown hlocks hK hN hA hA2 hbA hbl hX hLen i hi0 hc hs ⟨hmx, hkx, hmm, hkm, g1, g2, g3, ⟨r0, r1, r2, r3, r4, r5, r6, r7, r8, r9⟩, hJ⟩ TH hS hl (by omega) (fun k1 k2 k3 k4 k5 k6 k7 h1 h2 h3 h4 h5 => kk k1 k2 k3 k4 k5 k6 k7 h1 h2 (by omega) h3 h4 h5)
    by_cases hc8_29 : zi7 = 29
    · refine lv_tableIn (x := zi7) (off := 1056) (tgt := 1089) hx hb dL_law_33 (by rw [hc8_29]; decide) (by rw [hc8_29]; decide) (by rw [hc8_29]; decide) (by decide) ?_
      exact lop_29 hx hb hr hml hB hown hlocks hK hN hA hA2 hbA hbl hX hLen i hi0 hc hs ⟨hmx, hkx, hmm, hkm, g1, g2, g3, ⟨r0, r1, r2, r3, r4, r5, r6, r7, r8, r9⟩, hJ⟩ TH hS hl (by omega) (fun k1 k2 k3 k4 k5 k6 k7 h1 h2 h3 h4 h5 => kk k1 k2 k3 k4 k5 k6 k7 h1 h2 (by omega) h3 h4 h5)
    by_cases hc8_30 : zi7 = 30
    · refine lv_tableIn (x := zi7) (off := 1089) (tgt := 1122) hx hb dL_law_33 (by rw [hc8_30]; decide) (by rw [hc8_30]; decide) (by rw [hc8_30]; decide) (by decide) ?_
      exact lop_30 hx hb hr hml hB hown hlocks hK hN hA hA2 hbA hbl hX hLen i hi0 hc hs ⟨hmx, hkx, hmm, hkm, g1, g2, g3, ⟨r0, r1, r2, r3, r4, r5, r6, r7, r8, r9⟩, hJ⟩ TH hS hl (by omega) (fun k1 k2 k3 k4 k5 k6 k7 h1 h2 h3 h4 h5 => kk k1 k2 k3 k4 k5 k6 k7 h1 h2 (by omega) h3 h4 h5)
    by_cases hc8_31 : zi7 = 31
    · refine lv_tableIn (x := zi7) (off := 1122) (tgt := 1155) hx hb dL_law_33 (by rw [hc8_31]; decide) (by rw [hc8_31]; decide) (by rw [hc8_31]; decide) (by decide) ?_
      exact lop_31 hx hb hr hml hB hown hlocks hK hN hA hA2 hbA hbl hX hLen i hi0 hc hs ⟨hmx, hkx, hmm, hkm, g1, g2, g3, ⟨r0, r1, r2, r3, r4, r5, r6, r7, r8, r9⟩, hJ⟩ TH hS hl (by omega) (fun k1 k2 k3 k4 k5 k6 k7 h1 h2 h3 h4 h5 => kk k1 k2 k3 k4 k5 k6 k7 h1 h2 (by omega) h3 h4 h5)
    have hout : zi7.toInt < 0 ∨ 31 < zi7.toInt := by simp only [fa_eq] at hc8_0 hc8_1 hc8_2 hc8_3 hc8_4 hc8_5 hc8_6 hc8_7 hc8_8 hc8_9 hc8_10 hc8_11 hc8_12 hc8_13 hc8_14 hc8_15 hc8_16 hc8_17 hc8_18 hc8_19 hc8_20 hc8_21 hc8_22 hc8_23 hc8_24 hc8_25 hc8_26 hc8_27 hc8_28 hc8_29 hc8_30 hc8_31; have : ((0 : Int32).toInt) = 0 := (by decide); have : ((1 : Int32).toInt) = 1 := (by decide); have : ((2 : Int32).toInt) = 2 := (by decide); have : ((3 : Int32).toInt) = 3 := (by decide); have : ((4 : Int32).toInt) = 4 := (by decide); have : ((5 : Int32).toInt) = 5 := (by decide); have : ((6 : Int32).toInt) = 6 := (by decide); have : ((7 : Int32).toInt) = 7 := (by decide); have : ((8 : Int32).toInt) = 8 := (by decide); have : ((9 : Int32).toInt) = 9 := (by decide); have : ((10 : Int32).toInt) = 10 := (by decide); have : ((11 : Int32).toInt) = 11 := (by decide); have : ((12 : Int32).toInt) = 12 := (by decide); have : ((13 : Int32).toInt) = 13 := (by decide); have : ((14 : Int32).toInt) = 14 := (by decide); have : ((15 : Int32).toInt) = 15 := (by decide); have : ((16 : Int32).toInt) = 16 := (by decide); have : ((17 : Int32).toInt) = 17 := (by decide); have : ((18 : Int32).toInt) = 18 := (by decide); have : ((19 : Int32).toInt) = 19 := (by decide); have : ((20 : Int32).toInt) = 20 := (by decide); have : ((21 : Int32).toInt) = 21 := (by decide); have : ((22 : Int32).toInt) = 22 := (by decide); have : ((23 : Int32).toInt) = 23 := (by decide); have : ((24 : Int32).toInt) = 24 := (by decide); have : ((25 : Int32).toInt) = 25 := (by decide); have : ((26 : Int32).toInt) = 26 := (by decide); have : ((27 : Int32).toInt) = 27 := (by decide); have : ((28 : Int32).toInt) = 28 := (by decide); have : ((29 : Int32).toInt) = 29 := (by decide); have : ((30 : Int32).toInt) = 30 := (by decide); have : ((31 : Int32).toInt) = 31 := (by decide); omega
    refine lv_tableOut (tgt := 1178) hx hb dL_law_33 hout (by decide) ?_
    exact kk _ _ _ _ _ _ _ (by omega) (by omega) (by omega) ⟨hmx, hkx, hmm, hkm, g1, g2, g3, ⟨r0, r1, r2, r3, r4, r5, r6, r7, r8, r9⟩, hJ⟩ TH hS
