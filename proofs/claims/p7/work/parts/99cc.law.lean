/-! Part 99cc: cases of the law. Printed by wip/tools/genlaw.py. -/
theorem y_k16 {Γ : q_Γ} (hG : q_GG Γ) {i : Nat} (hi : i + 6 ≤ Γ.2.2.2.1) (hL : Γ.2.2.2.1 ≤ 3072) {h : q_F} (hA : q_Al 0 155 h) (J : t_J h) (E : h 1 1 = h 139 14) {cl sl : Nat} (hc : cl ≤ 3900) (hs : sl ≤ 39000) (k : y_K Γ i cl sl) : q_R Γ q_K 155 369 y_P (802, y_lo i, [], q_hp q_K 155 h, [], cl, sl) := by
  obtain ⟨S, J⟩ := J
  refine r_aload_n c369_802 rfl rfl ?_
  obtain ⟨v1, g1, e1, J1⟩ := t_c_reset  hA J
  refine y_cv (a := 0) (b := 0) c369_803 (by decide) rfl rfl rfl rfl (by omega) (by omega) rfl rfl (wn205 hG  hA e1) ?_
  intro i1 A1
  refine r_pop c369_806 rfl rfl ?_
  refine r_aload_n c369_807 rfl rfl ?_
  obtain ⟨v2, g2, e2, J2⟩ := t_r_reset  A1 J1
  refine y_cv (a := 0) (b := 0) c369_808 (by decide) rfl rfl rfl rfl (by omega) (by omega) rfl rfl (wn321 hG  A1 e2) ?_
  intro i2 A2
  refine r_pop c369_811 rfl rfl ?_
  refine r_goto c369_812 ?_
  refine q_R.wk (ks := [5, 0, 1, 2, 3, 4]) (lo' := y_lo i) rfl ?_
  exact k _ _ _ A2 ⟨⟨_, J2⟩, (j_T_J J2).2⟩ (by omega) (by omega)
theorem y_k17 {Γ : q_Γ} (hG : q_GG Γ) {i : Nat} (hi : i + 6 ≤ Γ.2.2.2.1) (hL : Γ.2.2.2.1 ≤ 3072) {h : q_F} (hA : q_Al 0 155 h) (J : t_J h) (E : h 1 1 = h 139 14) {cl sl : Nat} (hc : cl ≤ 3900) (hs : sl ≤ 39000) (k : y_K Γ i cl sl) : q_R Γ q_K 155 369 y_P (815, y_lo i, [], q_hp q_K 155 h, [], cl, sl) := by
  obtain ⟨S, J⟩ := J
  refine r_aload_n c369_815 rfl rfl ?_
  refine y_arg c369_816 c369_817 c369_819 c369_820 c369_821 rfl rfl rfl hi hL (by decide) ?_
  refine y_nz c369_822 c369_825 c369_826 c369_829 rfl (hG.1 (i + 1)) ?_
  obtain ⟨v1, g1, e1, J1⟩ := t_c_setC (v := (y_nzv (Γ.1 (i + 1)))) (y_nz01 (Γ.1 (i + 1))) J
  refine y_cv (a := 0) (b := 0) c369_830 (by decide) rfl rfl rfl rfl (by omega) (by omega) rfl rfl (wn210 hG (y_nz01 (Γ.1 (i + 1))) hA e1) ?_
  intro i1 A1
  refine r_pop c369_833 rfl rfl ?_
  refine r_aload_n c369_834 rfl rfl ?_
  refine y_arg c369_835 c369_836 c369_838 c369_839 c369_840 rfl rfl rfl hi hL (by decide) ?_
  refine y_nz c369_841 c369_844 c369_845 c369_848 rfl (hG.1 (i + 1)) ?_
  obtain ⟨v2, g2, e2, J2⟩ := t_r_setC (v := (y_nzv (Γ.1 (i + 1)))) (y_nz01 (Γ.1 (i + 1))) J1
  refine y_cv (a := 0) (b := 0) c369_849 (by decide) rfl rfl rfl rfl (by omega) (by omega) rfl rfl (wn328 hG (y_nz01 (Γ.1 (i + 1))) A1 e2) ?_
  intro i2 A2
  refine r_pop c369_852 rfl rfl ?_
  refine r_goto c369_853 ?_
  refine q_R.wk (ks := [5, 0, 1, 2, 3, 4]) (lo' := y_lo i) rfl ?_
  exact k _ _ _ A2 ⟨⟨_, J2⟩, (j_T_J J2).2⟩ (by omega) (by omega)
theorem y_k18 {Γ : q_Γ} (hG : q_GG Γ) {i : Nat} (hi : i + 6 ≤ Γ.2.2.2.1) (hL : Γ.2.2.2.1 ≤ 3072) {h : q_F} (hA : q_Al 0 155 h) (J : t_J h) (E : h 1 1 = h 139 14) {cl sl : Nat} (hc : cl ≤ 3900) (hs : sl ≤ 39000) (k : y_K Γ i cl sl) : q_R Γ q_K 155 369 y_P (856, y_lo i, [], q_hp q_K 155 h, [], cl, sl) := by
  obtain ⟨S, J⟩ := J
  refine r_aload_n c369_856 rfl rfl ?_
  refine y_arg c369_857 c369_858 c369_860 c369_861 c369_862 rfl rfl rfl hi hL (by decide) ?_
  refine y_nz c369_863 c369_866 c369_867 c369_870 rfl (hG.1 (i + 1)) ?_
  obtain ⟨v1, g1, e1, J1⟩ := t_c_setD (v := (y_nzv (Γ.1 (i + 1)))) (y_nz01 (Γ.1 (i + 1))) J
  refine y_cv (a := 0) (b := 0) c369_871 (by decide) rfl rfl rfl rfl (by omega) (by omega) rfl rfl (wn211 hG (y_nz01 (Γ.1 (i + 1))) hA e1) ?_
  intro i1 A1
  refine r_pop c369_874 rfl rfl ?_
  refine r_aload_n c369_875 rfl rfl ?_
  refine y_arg c369_876 c369_877 c369_879 c369_880 c369_881 rfl rfl rfl hi hL (by decide) ?_
  refine y_nz c369_882 c369_885 c369_886 c369_889 rfl (hG.1 (i + 1)) ?_
  obtain ⟨v2, g2, e2, J2⟩ := t_r_setD (v := (y_nzv (Γ.1 (i + 1)))) (y_nz01 (Γ.1 (i + 1))) J1
  refine y_cv (a := 0) (b := 0) c369_890 (by decide) rfl rfl rfl rfl (by omega) (by omega) rfl rfl (wn329 hG (y_nz01 (Γ.1 (i + 1))) A1 e2) ?_
  intro i2 A2
  refine r_pop c369_893 rfl rfl ?_
  refine r_goto c369_894 ?_
  refine q_R.wk (ks := [5, 0, 1, 2, 3, 4]) (lo' := y_lo i) rfl ?_
  exact k _ _ _ A2 ⟨⟨_, J2⟩, (j_T_J J2).2⟩ (by omega) (by omega)
theorem y_k19 {Γ : q_Γ} (hG : q_GG Γ) {i : Nat} (hi : i + 6 ≤ Γ.2.2.2.1) (hL : Γ.2.2.2.1 ≤ 3072) {h : q_F} (hA : q_Al 0 155 h) (J : t_J h) (E : h 1 1 = h 139 14) {cl sl : Nat} (hc : cl ≤ 3900) (hs : sl ≤ 39000) (k : y_K Γ i cl sl) : q_R Γ q_K 155 369 y_P (897, y_lo i, [], q_hp q_K 155 h, [], cl, sl) := by
  obtain ⟨S, J⟩ := J
  refine r_aload_n c369_897 rfl rfl ?_
  refine y_arg c369_898 c369_899 c369_901 c369_902 c369_903 rfl rfl rfl hi hL (by decide) ?_
  refine y_arg c369_904 c369_905 c369_907 c369_908 c369_909 rfl rfl rfl hi hL (by decide) ?_
  refine r_aload_n c369_910 rfl rfl ?_
  obtain ⟨v1, g1, e1, J1⟩ := t_L26 (v1 := (Γ.1 (i + 1))) (v2 := (Γ.1 (i + 2))) hA J
  refine y_cs (a := 2) (b := 12) c369_911 rfl rfl (by omega) (by omega) rfl rfl (wn26 hG (hG.1 (i + 1)) (hG.1 (i + 2)) hA e1) ?_
  intro i1 A1
  refine r_istore c369_914 (lo' := [(6, (0, v1)), (5, (0, (i : Int))), (0, (9, 0)), (1, (2, Int.ofNat 0)), (2, (2, Int.ofNat 139)), (3, (2, Int.ofNat 153)), (4, (2, Int.ofNat 154))]) rfl rfl rfl ?_
  refine r_aload_n c369_916 rfl rfl ?_
  refine y_arg c369_917 c369_918 c369_920 c369_921 c369_922 rfl rfl rfl hi hL (by decide) ?_
  refine y_arg c369_923 c369_924 c369_926 c369_927 c369_928 rfl rfl rfl hi hL (by decide) ?_
  obtain ⟨v2, g2, e2, J2⟩ := t_r_setStuck (a := (Γ.1 (i + 1))) (v := (Γ.1 (i + 2))) A1 J1
  refine y_cv (a := 0) (b := 0) c369_929 (by decide) rfl rfl rfl rfl (by omega) (by omega) rfl rfl (wn331 hG (hG.1 (i + 1)) (hG.1 (i + 2)) A1 e2) ?_
  intro i2 A2
  refine r_istore c369_932 (lo' := [(7, (0, v2)), (6, (0, v1)), (5, (0, (i : Int))), (0, (9, 0)), (1, (2, Int.ofNat 0)), (2, (2, Int.ofNat 139)), (3, (2, Int.ofNat 153)), (4, (2, Int.ofNat 154))]) rfl rfl rfl ?_
  refine r_goto c369_934 ?_
  refine q_R.wk (ks := [5, 0, 1, 2, 3, 4]) (lo' := y_lo i) rfl ?_
  exact k _ _ _ A2 ⟨⟨_, J2⟩, (j_T_J J2).2⟩ (by omega) (by omega)
theorem y_k20 {Γ : q_Γ} (hG : q_GG Γ) {i : Nat} (hi : i + 6 ≤ Γ.2.2.2.1) (hL : Γ.2.2.2.1 ≤ 3072) {h : q_F} (hA : q_Al 0 155 h) (J : t_J h) (E : h 1 1 = h 139 14) {cl sl : Nat} (hc : cl ≤ 3900) (hs : sl ≤ 39000) (k : y_K Γ i cl sl) : q_R Γ q_K 155 369 y_P (937, y_lo i, [], q_hp q_K 155 h, [], cl, sl) := by
  obtain ⟨S, J⟩ := J
  refine r_aload_n c369_937 rfl rfl ?_
  refine y_arg c369_938 c369_939 c369_941 c369_942 c369_943 rfl rfl rfl hi hL (by decide) ?_
  refine r_aload_n c369_944 rfl rfl ?_
  obtain ⟨v1, g1, e1, J1⟩ := t_L25 (v1 := (Γ.1 (i + 1))) hA J
  refine y_cs (a := 1) (b := 6) c369_945 rfl rfl (by omega) (by omega) rfl rfl (wn25 hG (hG.1 (i + 1)) hA e1) ?_
  intro i1 A1
  refine r_istore c369_948 (lo' := [(6, (0, v1)), (5, (0, (i : Int))), (0, (9, 0)), (1, (2, Int.ofNat 0)), (2, (2, Int.ofNat 139)), (3, (2, Int.ofNat 153)), (4, (2, Int.ofNat 154))]) rfl rfl rfl ?_
  refine r_aload_n c369_950 rfl rfl ?_
  refine y_arg c369_951 c369_952 c369_954 c369_955 c369_956 rfl rfl rfl hi hL (by decide) ?_
  obtain ⟨v2, g2, e2, J2⟩ := t_r_setStart (v := (Γ.1 (i + 1))) A1 J1
  refine y_cv (a := 0) (b := 0) c369_957 (by decide) rfl rfl rfl rfl (by omega) (by omega) rfl rfl (wn330 hG (hG.1 (i + 1)) A1 e2) ?_
  intro i2 A2
  refine r_istore c369_960 (lo' := [(7, (0, v2)), (6, (0, v1)), (5, (0, (i : Int))), (0, (9, 0)), (1, (2, Int.ofNat 0)), (2, (2, Int.ofNat 139)), (3, (2, Int.ofNat 153)), (4, (2, Int.ofNat 154))]) rfl rfl rfl ?_
  refine r_goto c369_962 ?_
  refine q_R.wk (ks := [5, 0, 1, 2, 3, 4]) (lo' := y_lo i) rfl ?_
  exact k _ _ _ A2 ⟨⟨_, J2⟩, (j_T_J J2).2⟩ (by omega) (by omega)
theorem y_k21 {Γ : q_Γ} (hG : q_GG Γ) {i : Nat} (hi : i + 6 ≤ Γ.2.2.2.1) (hL : Γ.2.2.2.1 ≤ 3072) {h : q_F} (hA : q_Al 0 155 h) (J : t_J h) (E : h 1 1 = h 139 14) {cl sl : Nat} (hc : cl ≤ 3900) (hs : sl ≤ 39000) (k : y_K Γ i cl sl) : q_R Γ q_K 155 369 y_P (965, y_lo i, [], q_hp q_K 155 h, [], cl, sl) := by
  obtain ⟨S, J⟩ := J
  refine r_aload_n c369_965 rfl rfl ?_
  refine y_arg c369_966 c369_967 c369_969 c369_970 c369_971 rfl rfl rfl hi hL (by decide) ?_
  refine y_arg c369_972 c369_973 c369_975 c369_976 c369_977 rfl rfl rfl hi hL (by decide) ?_
  refine r_aload_n c369_978 rfl rfl ?_
  obtain ⟨v1, g1, e1, J1⟩ := t_L33 (v1 := (Γ.1 (i + 1))) (v2 := (Γ.1 (i + 2))) hA J
  refine y_cs (a := 2) (b := 12) c369_979 rfl rfl (by omega) (by omega) rfl rfl (wn33 hG (hG.1 (i + 1)) (hG.1 (i + 2)) hA e1) ?_
  intro i1 A1
  refine r_istore c369_982 (lo' := [(6, (0, v1)), (5, (0, (i : Int))), (0, (9, 0)), (1, (2, Int.ofNat 0)), (2, (2, Int.ofNat 139)), (3, (2, Int.ofNat 153)), (4, (2, Int.ofNat 154))]) rfl rfl rfl ?_
  refine r_aload_n c369_984 rfl rfl ?_
  refine y_arg c369_985 c369_986 c369_988 c369_989 c369_990 rfl rfl rfl hi hL (by decide) ?_
  refine y_arg c369_991 c369_992 c369_994 c369_995 c369_996 rfl rfl rfl hi hL (by decide) ?_
  obtain ⟨v2, g2, e2, J2⟩ := t_r_target (m := (Γ.1 (i + 1))) (a := (Γ.1 (i + 2))) A1 J1
  refine y_cv (a := 0) (b := 0) c369_997 (by decide) rfl rfl rfl rfl (by omega) (by omega) rfl rfl (wn350 hG (hG.1 (i + 1)) (hG.1 (i + 2)) A1 e2) ?_
  intro i2 A2
  refine r_istore c369_1000 (lo' := [(7, (0, v2)), (6, (0, v1)), (5, (0, (i : Int))), (0, (9, 0)), (1, (2, Int.ofNat 0)), (2, (2, Int.ofNat 139)), (3, (2, Int.ofNat 153)), (4, (2, Int.ofNat 154))]) rfl rfl rfl ?_
  refine r_goto c369_1002 ?_
  refine q_R.wk (ks := [5, 0, 1, 2, 3, 4]) (lo' := y_lo i) rfl ?_
  exact k _ _ _ A2 ⟨⟨_, J2⟩, (j_T_J J2).2⟩ (by omega) (by omega)
theorem y_k22 {Γ : q_Γ} (hG : q_GG Γ) {i : Nat} (hi : i + 6 ≤ Γ.2.2.2.1) (hL : Γ.2.2.2.1 ≤ 3072) {h : q_F} (hA : q_Al 0 155 h) (J : t_J h) (E : h 1 1 = h 139 14) {cl sl : Nat} (hc : cl ≤ 3900) (hs : sl ≤ 39000) (k : y_K Γ i cl sl) : q_R Γ q_K 155 369 y_P (1005, y_lo i, [], q_hp q_K 155 h, [], cl, sl) := by
  obtain ⟨S, J⟩ := J
  refine r_aload_n c369_1005 rfl rfl ?_
  refine y_arg c369_1006 c369_1007 c369_1009 c369_1010 c369_1011 rfl rfl rfl hi hL (by decide) ?_
  refine y_arg c369_1012 c369_1013 c369_1015 c369_1016 c369_1017 rfl rfl rfl hi hL (by decide) ?_
  refine r_aload_n c369_1018 rfl rfl ?_
  obtain ⟨v1, g1, e1, J1⟩ := t_L17 (v1 := (Γ.1 (i + 1))) (v2 := (Γ.1 (i + 2))) hA J
  refine y_cs (a := 2) (b := 12) c369_1019 rfl rfl (by omega) (by omega) rfl rfl (wn17 hG (hG.1 (i + 1)) (hG.1 (i + 2)) hA e1) ?_
  intro i1 A1
  refine r_istore c369_1022 (lo' := [(6, (0, v1)), (5, (0, (i : Int))), (0, (9, 0)), (1, (2, Int.ofNat 0)), (2, (2, Int.ofNat 139)), (3, (2, Int.ofNat 153)), (4, (2, Int.ofNat 154))]) rfl rfl rfl ?_
  refine r_aload_n c369_1024 rfl rfl ?_
  refine y_arg c369_1025 c369_1026 c369_1028 c369_1029 c369_1030 rfl rfl rfl hi hL (by decide) ?_
  refine y_arg c369_1031 c369_1032 c369_1034 c369_1035 c369_1036 rfl rfl rfl hi hL (by decide) ?_
  obtain ⟨v2, g2, e2, J2⟩ := t_r_moveC (m := (Γ.1 (i + 1))) (v := (Γ.1 (i + 2))) A1 J1
  refine y_cv (a := 0) (b := 0) c369_1037 (by decide) rfl rfl rfl rfl (by omega) (by omega) rfl rfl (wn294 hG (hG.1 (i + 1)) (hG.1 (i + 2)) A1 e2) ?_
  intro i2 A2
  refine r_istore c369_1040 (lo' := [(7, (0, v2)), (6, (0, v1)), (5, (0, (i : Int))), (0, (9, 0)), (1, (2, Int.ofNat 0)), (2, (2, Int.ofNat 139)), (3, (2, Int.ofNat 153)), (4, (2, Int.ofNat 154))]) rfl rfl rfl ?_
  refine r_goto c369_1042 ?_
  refine q_R.wk (ks := [5, 0, 1, 2, 3, 4]) (lo' := y_lo i) rfl ?_
  exact k _ _ _ A2 ⟨⟨_, J2⟩, (j_T_J J2).2⟩ (by omega) (by omega)
theorem y_k23 {Γ : q_Γ} (hG : q_GG Γ) {i : Nat} (hi : i + 6 ≤ Γ.2.2.2.1) (hL : Γ.2.2.2.1 ≤ 3072) {h : q_F} (hA : q_Al 0 155 h) (J : t_J h) (E : h 1 1 = h 139 14) {cl sl : Nat} (hc : cl ≤ 3900) (hs : sl ≤ 39000) (k : y_K Γ i cl sl) : q_R Γ q_K 155 369 y_P (1045, y_lo i, [], q_hp q_K 155 h, [], cl, sl) := by
  obtain ⟨S, J⟩ := J
  refine r_aload_n c369_1045 rfl rfl ?_
  refine y_arg c369_1046 c369_1047 c369_1049 c369_1050 c369_1051 rfl rfl rfl hi hL (by decide) ?_
  refine y_arg c369_1052 c369_1053 c369_1055 c369_1056 c369_1057 rfl rfl rfl hi hL (by decide) ?_
  refine r_aload_n c369_1058 rfl rfl ?_
  obtain ⟨v1, g1, e1, J1⟩ := t_L29 (v1 := (Γ.1 (i + 1))) (v2 := (Γ.1 (i + 2))) hA J
  refine y_cs (a := 2) (b := 12) c369_1059 rfl rfl (by omega) (by omega) rfl rfl (wn29 hG (hG.1 (i + 1)) (hG.1 (i + 2)) hA e1) ?_
  intro i1 A1
  refine r_istore c369_1062 (lo' := [(6, (0, v1)), (5, (0, (i : Int))), (0, (9, 0)), (1, (2, Int.ofNat 0)), (2, (2, Int.ofNat 139)), (3, (2, Int.ofNat 153)), (4, (2, Int.ofNat 154))]) rfl rfl rfl ?_
  refine r_aload_n c369_1064 rfl rfl ?_
  refine y_arg c369_1065 c369_1066 c369_1068 c369_1069 c369_1070 rfl rfl rfl hi hL (by decide) ?_
  refine y_arg c369_1071 c369_1072 c369_1074 c369_1075 c369_1076 rfl rfl rfl hi hL (by decide) ?_
  obtain ⟨v2, g2, e2, J2⟩ := t_r_speed (m := (Γ.1 (i + 1))) (k := (Γ.1 (i + 2))) A1 J1
  refine y_cv (a := 0) (b := 0) c369_1077 (by decide) rfl rfl rfl rfl (by omega) (by omega) rfl rfl (wn337 hG (hG.1 (i + 1)) (hG.1 (i + 2)) A1 e2) ?_
  intro i2 A2
  refine r_istore c369_1080 (lo' := [(7, (0, v2)), (6, (0, v1)), (5, (0, (i : Int))), (0, (9, 0)), (1, (2, Int.ofNat 0)), (2, (2, Int.ofNat 139)), (3, (2, Int.ofNat 153)), (4, (2, Int.ofNat 154))]) rfl rfl rfl ?_
  refine r_goto c369_1082 ?_
  refine q_R.wk (ks := [5, 0, 1, 2, 3, 4]) (lo' := y_lo i) rfl ?_
  exact k _ _ _ A2 ⟨⟨_, J2⟩, (j_T_J J2).2⟩ (by omega) (by omega)
