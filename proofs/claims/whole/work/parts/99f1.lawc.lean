section WC
variable {p : Program} {l : Launch} {e : Env} {s : State} {m : MethodId} {below : List Frame} {meth : Method} {c : Code} {H : Heap} {locs : List Loc} {cells slots : Nat} {Q : State → Prop}
variable {pc : Nat} {ls : Array Slot} {rest : List Value} {D : va_G} {aC : Nat → ClassId} {b L : Nat} {xs : Nat → Int32} {cm mm : g_M}
set_option maxHeartbeats 4000000 in
set_option maxRecDepth 100000 in
theorem w_case15 (E : w_E p s m c D aC b L xs) {i : Nat} (hi : i + 6 ≤ L) (hM : w_M D aC s cm mm H locs) (hI : INV cm mm) (hl : lv_has ls 7 (w_lv s b i)) (hf : cells ≤ 601024 ∧ slots ≤ 7293034) (kk : ∀ (H1 : Heap) (locs1 : List Loc) (c1 m1 : g_M), w_M D aC s c1 m1 H1 locs1 → INV c1 m1 → W p l e room_1 s m #[Value.ref b] below meth c H1 locs1 cells slots Q (F0 m 1762 ls [])) : W p l e room_1 s m #[Value.ref b] below meth c H locs cells slots Q (F0 m 831 ls []) := by
  have hx := E.1.1
  have hb := E.1.2.1
  obtain ⟨r, c1, m1, h1, h2, hI1⟩ := s_swap (F := 5001) (by decide) hI (xs (i + 1)) (xs (i + 2)) (xs (i + 3))
  refine lv_aload_n hx hb dL_law_831 rfl (lv_at hl 1 rfl) ?_
  refine w_arg (j := 1) E hM.2.2.2 hl rfl (by omega) dL_law_832 dL_law_833 dL_law_835 dL_law_836 dL_law_837 ?_
  refine W.eq (g2 := F0 m 838 ls [.int (xs (i + 1)), .ref (s.heap.size + 0)]) rfl ?_
  refine w_arg (j := 2) E hM.2.2.2 hl rfl (by omega) dL_law_838 dL_law_839 dL_law_841 dL_law_842 dL_law_843 ?_
  refine W.eq (g2 := F0 m 844 ls [.int (xs (i + 2)), .int (xs (i + 1)), .ref (s.heap.size + 0)]) rfl ?_
  refine w_arg (j := 3) E hM.2.2.2 hl rfl (by omega) dL_law_844 dL_law_845 dL_law_847 dL_law_848 dL_law_849 ?_
  refine W.eq (g2 := F0 m 850 ls [.int (xs (i + 3)), .int (xs (i + 2)), .int (xs (i + 1)), .ref (s.heap.size + 0)]) rfl ?_
  refine w_callC [.int (xs (i + 1)), .int (xs (i + 2)), .int (xs (i + 3))] (rest := []) E hl.1 hM cv_L_92 (c10_swap l D aC s.heap.size h1) (Nat.le_of_ble_eq_true rfl) (Nat.le_of_ble_eq_true rfl) rfl rfl (Nat.le_of_ble_eq_true rfl) dL_law_850 hf (fun H locs hM => ?_)
  refine W.eq (g2 := F0 m 853 ls [.int r]) rfl ?_
  refine lv_aload_n hx hb dL_law_853 rfl (lv_at hl 2 rfl) ?_
  refine w_arg (j := 1) E hM.2.2.2 hl rfl (by omega) dL_law_854 dL_law_855 dL_law_857 dL_law_858 dL_law_859 ?_
  refine W.eq (g2 := F0 m 860 ls [.int (xs (i + 1)), .ref (s.heap.size + 69 + 0), .int r]) rfl ?_
  refine w_arg (j := 2) E hM.2.2.2 hl rfl (by omega) dL_law_860 dL_law_861 dL_law_863 dL_law_864 dL_law_865 ?_
  refine W.eq (g2 := F0 m 866 ls [.int (xs (i + 2)), .int (xs (i + 1)), .ref (s.heap.size + 69 + 0), .int r]) rfl ?_
  refine w_arg (j := 3) E hM.2.2.2 hl rfl (by omega) dL_law_866 dL_law_867 dL_law_869 dL_law_870 dL_law_871 ?_
  refine W.eq (g2 := F0 m 872 ls [.int (xs (i + 3)), .int (xs (i + 2)), .int (xs (i + 1)), .ref (s.heap.size + 69 + 0), .int r]) rfl ?_
  refine w_callM [.int (xs (i + 1)), .int (xs (i + 2)), .int (xs (i + 3))] (rest := [.int r]) E hl.1 hM cv_L_96 (c11_swap l D aC (s.heap.size + 69) h2) (Nat.le_of_ble_eq_true rfl) (Nat.le_of_ble_eq_true rfl) rfl rfl (Nat.le_of_ble_eq_true rfl) dL_law_872 hf (fun H locs hM => ?_)
  refine W.eq (g2 := F0 m 875 ls [.int r, .int r]) rfl ?_
  refine lv_icmp_eq (tgt := 1762) hx hb dL_law_875 (by decide) (fun _ => ?_) (fun h => absurd rfl h)
  exact kk H locs c1 m1 hM hI1
set_option maxHeartbeats 4000000 in
set_option maxRecDepth 100000 in
theorem w_case16 (E : w_E p s m c D aC b L xs) {i : Nat} (hi : i + 6 ≤ L) (hM : w_M D aC s cm mm H locs) (hI : INV cm mm) (hl : lv_has ls 7 (w_lv s b i)) (hf : cells ≤ 601024 ∧ slots ≤ 7293034) (kk : ∀ (H1 : Heap) (locs1 : List Loc) (c1 m1 : g_M), w_M D aC s c1 m1 H1 locs1 → INV c1 m1 → W p l e room_1 s m #[Value.ref b] below meth c H1 locs1 cells slots Q (F0 m 1762 ls [])) : W p l e room_1 s m #[Value.ref b] below meth c H locs cells slots Q (F0 m 880 ls []) := by
  have hx := E.1.1
  have hb := E.1.2.1
  obtain ⟨r, c1, m1, h1, h2, hI1⟩ := s_lend (F := 5001) (by decide) hI (xs (i + 1)) (xs (i + 2))
  refine lv_aload_n hx hb dL_law_880 rfl (lv_at hl 1 rfl) ?_
  refine w_arg (j := 1) E hM.2.2.2 hl rfl (by omega) dL_law_881 dL_law_882 dL_law_884 dL_law_885 dL_law_886 ?_
  refine W.eq (g2 := F0 m 887 ls [.int (xs (i + 1)), .ref (s.heap.size + 0)]) rfl ?_
  refine w_arg (j := 2) E hM.2.2.2 hl rfl (by omega) dL_law_887 dL_law_888 dL_law_890 dL_law_891 dL_law_892 ?_
  refine W.eq (g2 := F0 m 893 ls [.int (xs (i + 2)), .int (xs (i + 1)), .ref (s.heap.size + 0)]) rfl ?_
  refine w_callC [.int (xs (i + 1)), .int (xs (i + 2))] (rest := []) E hl.1 hM cv_L_97 (c10_lend l D aC s.heap.size h1) (Nat.le_of_ble_eq_true rfl) (Nat.le_of_ble_eq_true rfl) rfl rfl (Nat.le_of_ble_eq_true rfl) dL_law_893 hf (fun H locs hM => ?_)
  refine W.eq (g2 := F0 m 896 ls [.int r]) rfl ?_
  refine lv_aload_n hx hb dL_law_896 rfl (lv_at hl 2 rfl) ?_
  refine w_arg (j := 1) E hM.2.2.2 hl rfl (by omega) dL_law_897 dL_law_898 dL_law_900 dL_law_901 dL_law_902 ?_
  refine W.eq (g2 := F0 m 903 ls [.int (xs (i + 1)), .ref (s.heap.size + 69 + 0), .int r]) rfl ?_
  refine w_arg (j := 2) E hM.2.2.2 hl rfl (by omega) dL_law_903 dL_law_904 dL_law_906 dL_law_907 dL_law_908 ?_
  refine W.eq (g2 := F0 m 909 ls [.int (xs (i + 2)), .int (xs (i + 1)), .ref (s.heap.size + 69 + 0), .int r]) rfl ?_
  refine w_callM [.int (xs (i + 1)), .int (xs (i + 2))] (rest := [.int r]) E hl.1 hM cv_L_100 (c11_lend l D aC (s.heap.size + 69) h2) (Nat.le_of_ble_eq_true rfl) (Nat.le_of_ble_eq_true rfl) rfl rfl (Nat.le_of_ble_eq_true rfl) dL_law_909 hf (fun H locs hM => ?_)
  refine W.eq (g2 := F0 m 912 ls [.int r, .int r]) rfl ?_
  refine lv_icmp_eq (tgt := 1762) hx hb dL_law_912 (by decide) (fun _ => ?_) (fun h => absurd rfl h)
  exact kk H locs c1 m1 hM hI1
set_option maxHeartbeats 4000000 in
set_option maxRecDepth 100000 in
theorem w_case17 (E : w_E p s m c D aC b L xs) {i : Nat} (hi : i + 6 ≤ L) (hM : w_M D aC s cm mm H locs) (hI : INV cm mm) (hl : lv_has ls 7 (w_lv s b i)) (hf : cells ≤ 601024 ∧ slots ≤ 7293034) (kk : ∀ (H1 : Heap) (locs1 : List Loc) (c1 m1 : g_M), w_M D aC s c1 m1 H1 locs1 → INV c1 m1 → W p l e room_1 s m #[Value.ref b] below meth c H1 locs1 cells slots Q (F0 m 1762 ls [])) : W p l e room_1 s m #[Value.ref b] below meth c H locs cells slots Q (F0 m 917 ls []) := by
  have hx := E.1.1
  have hb := E.1.2.1
  obtain ⟨r, c1, m1, h1, h2, hI1⟩ := s_go (F := 5001) (by decide) hI (xs (i + 1))
  refine lv_aload_n hx hb dL_law_917 rfl (lv_at hl 1 rfl) ?_
  refine w_arg (j := 1) E hM.2.2.2 hl rfl (by omega) dL_law_918 dL_law_919 dL_law_921 dL_law_922 dL_law_923 ?_
  refine W.eq (g2 := F0 m 924 ls [.int (xs (i + 1)), .ref (s.heap.size + 0)]) rfl ?_
  refine w_callC [.int (xs (i + 1))] (rest := []) E hl.1 hM cv_L_101 (c10_go l D aC s.heap.size h1) (Nat.le_of_ble_eq_true rfl) (Nat.le_of_ble_eq_true rfl) rfl rfl (Nat.le_of_ble_eq_true rfl) dL_law_924 hf (fun H locs hM => ?_)
  refine W.eq (g2 := F0 m 927 ls [.int r]) rfl ?_
  refine lv_aload_n hx hb dL_law_927 rfl (lv_at hl 2 rfl) ?_
  refine w_arg (j := 1) E hM.2.2.2 hl rfl (by omega) dL_law_928 dL_law_929 dL_law_931 dL_law_932 dL_law_933 ?_
  refine W.eq (g2 := F0 m 934 ls [.int (xs (i + 1)), .ref (s.heap.size + 69 + 0), .int r]) rfl ?_
  refine w_callM [.int (xs (i + 1))] (rest := [.int r]) E hl.1 hM cv_L_104 (c11_go l D aC (s.heap.size + 69) h2) (Nat.le_of_ble_eq_true rfl) (Nat.le_of_ble_eq_true rfl) rfl rfl (Nat.le_of_ble_eq_true rfl) dL_law_934 hf (fun H locs hM => ?_)
  refine W.eq (g2 := F0 m 937 ls [.int r, .int r]) rfl ?_
  refine lv_icmp_eq (tgt := 1762) hx hb dL_law_937 (by decide) (fun _ => ?_) (fun h => absurd rfl h)
  exact kk H locs c1 m1 hM hI1
set_option maxHeartbeats 4000000 in
set_option maxRecDepth 100000 in
theorem w_case18 (E : w_E p s m c D aC b L xs) {i : Nat} (hi : i + 6 ≤ L) (hM : w_M D aC s cm mm H locs) (hI : INV cm mm) (hl : lv_has ls 7 (w_lv s b i)) (hf : cells ≤ 601024 ∧ slots ≤ 7293034) (kk : ∀ (H1 : Heap) (locs1 : List Loc) (c1 m1 : g_M), w_M D aC s c1 m1 H1 locs1 → INV c1 m1 → W p l e room_1 s m #[Value.ref b] below meth c H1 locs1 cells slots Q (F0 m 1762 ls [])) : W p l e room_1 s m #[Value.ref b] below meth c H locs cells slots Q (F0 m 942 ls []) := by
  have hx := E.1.1
  have hb := E.1.2.1
  obtain ⟨r, c1, m1, h1, h2, hI1⟩ := s_ahead (F := 5001) (by decide) hI (xs (i + 1)) (xs (i + 2)) (xs (i + 3))
  refine lv_aload_n hx hb dL_law_942 rfl (lv_at hl 1 rfl) ?_
  refine w_arg (j := 1) E hM.2.2.2 hl rfl (by omega) dL_law_943 dL_law_944 dL_law_946 dL_law_947 dL_law_948 ?_
  refine W.eq (g2 := F0 m 949 ls [.int (xs (i + 1)), .ref (s.heap.size + 0)]) rfl ?_
  refine w_arg (j := 2) E hM.2.2.2 hl rfl (by omega) dL_law_949 dL_law_950 dL_law_952 dL_law_953 dL_law_954 ?_
  refine W.eq (g2 := F0 m 955 ls [.int (xs (i + 2)), .int (xs (i + 1)), .ref (s.heap.size + 0)]) rfl ?_
  refine w_arg (j := 3) E hM.2.2.2 hl rfl (by omega) dL_law_955 dL_law_956 dL_law_958 dL_law_959 dL_law_960 ?_
  refine W.eq (g2 := F0 m 961 ls [.int (xs (i + 3)), .int (xs (i + 2)), .int (xs (i + 1)), .ref (s.heap.size + 0)]) rfl ?_
  refine w_callC [.int (xs (i + 1)), .int (xs (i + 2)), .int (xs (i + 3))] (rest := []) E hl.1 hM cv_L_105 (c10_ahead l D aC s.heap.size h1) (Nat.le_of_ble_eq_true rfl) (Nat.le_of_ble_eq_true rfl) rfl rfl (Nat.le_of_ble_eq_true rfl) dL_law_961 hf (fun H locs hM => ?_)
  refine W.eq (g2 := F0 m 964 ls [.int r]) rfl ?_
  refine lv_aload_n hx hb dL_law_964 rfl (lv_at hl 2 rfl) ?_
  refine w_arg (j := 1) E hM.2.2.2 hl rfl (by omega) dL_law_965 dL_law_966 dL_law_968 dL_law_969 dL_law_970 ?_
  refine W.eq (g2 := F0 m 971 ls [.int (xs (i + 1)), .ref (s.heap.size + 69 + 0), .int r]) rfl ?_
  refine w_arg (j := 2) E hM.2.2.2 hl rfl (by omega) dL_law_971 dL_law_972 dL_law_974 dL_law_975 dL_law_976 ?_
  refine W.eq (g2 := F0 m 977 ls [.int (xs (i + 2)), .int (xs (i + 1)), .ref (s.heap.size + 69 + 0), .int r]) rfl ?_
  refine w_arg (j := 3) E hM.2.2.2 hl rfl (by omega) dL_law_977 dL_law_978 dL_law_980 dL_law_981 dL_law_982 ?_
  refine W.eq (g2 := F0 m 983 ls [.int (xs (i + 3)), .int (xs (i + 2)), .int (xs (i + 1)), .ref (s.heap.size + 69 + 0), .int r]) rfl ?_
  refine w_callM [.int (xs (i + 1)), .int (xs (i + 2)), .int (xs (i + 3))] (rest := [.int r]) E hl.1 hM cv_L_108 (c11_ahead l D aC (s.heap.size + 69) h2) (Nat.le_of_ble_eq_true rfl) (Nat.le_of_ble_eq_true rfl) rfl rfl (Nat.le_of_ble_eq_true rfl) dL_law_983 hf (fun H locs hM => ?_)
  refine W.eq (g2 := F0 m 986 ls [.int r, .int r]) rfl ?_
  refine lv_icmp_eq (tgt := 1762) hx hb dL_law_986 (by decide) (fun _ => ?_) (fun h => absurd rfl h)
  exact kk H locs c1 m1 hM hI1
set_option maxHeartbeats 4000000 in
set_option maxRecDepth 100000 in
theorem w_case19 (E : w_E p s m c D aC b L xs) {i : Nat} (hi : i + 6 ≤ L) (hM : w_M D aC s cm mm H locs) (hI : INV cm mm) (hl : lv_has ls 7 (w_lv s b i)) (hf : cells ≤ 601024 ∧ slots ≤ 7293034) (kk : ∀ (H1 : Heap) (locs1 : List Loc) (c1 m1 : g_M), w_M D aC s c1 m1 H1 locs1 → INV c1 m1 → W p l e room_1 s m #[Value.ref b] below meth c H1 locs1 cells slots Q (F0 m 1762 ls [])) : W p l e room_1 s m #[Value.ref b] below meth c H locs cells slots Q (F0 m 991 ls []) := by
  have hx := E.1.1
  have hb := E.1.2.1
  obtain ⟨r, c1, m1, h1, h2, hI1⟩ := s_first (F := 5001) (by decide) hI (xs (i + 1)) (xs (i + 2)) (xs (i + 3))
  refine lv_aload_n hx hb dL_law_991 rfl (lv_at hl 1 rfl) ?_
  refine w_arg (j := 1) E hM.2.2.2 hl rfl (by omega) dL_law_992 dL_law_993 dL_law_995 dL_law_996 dL_law_997 ?_
  refine W.eq (g2 := F0 m 998 ls [.int (xs (i + 1)), .ref (s.heap.size + 0)]) rfl ?_
  refine w_arg (j := 2) E hM.2.2.2 hl rfl (by omega) dL_law_998 dL_law_999 dL_law_1001 dL_law_1002 dL_law_1003 ?_
  refine W.eq (g2 := F0 m 1004 ls [.int (xs (i + 2)), .int (xs (i + 1)), .ref (s.heap.size + 0)]) rfl ?_
  refine w_arg (j := 3) E hM.2.2.2 hl rfl (by omega) dL_law_1004 dL_law_1005 dL_law_1007 dL_law_1008 dL_law_1009 ?_
  refine W.eq (g2 := F0 m 1010 ls [.int (xs (i + 3)), .int (xs (i + 2)), .int (xs (i + 1)), .ref (s.heap.size + 0)]) rfl ?_
  refine w_callC [.int (xs (i + 1)), .int (xs (i + 2)), .int (xs (i + 3))] (rest := []) E hl.1 hM cv_L_109 (c10_first l D aC s.heap.size h1) (Nat.le_of_ble_eq_true rfl) (Nat.le_of_ble_eq_true rfl) rfl rfl (Nat.le_of_ble_eq_true rfl) dL_law_1010 hf (fun H locs hM => ?_)
  refine W.eq (g2 := F0 m 1013 ls [.int r]) rfl ?_
  refine lv_aload_n hx hb dL_law_1013 rfl (lv_at hl 2 rfl) ?_
  refine w_arg (j := 1) E hM.2.2.2 hl rfl (by omega) dL_law_1014 dL_law_1015 dL_law_1017 dL_law_1018 dL_law_1019 ?_
  refine W.eq (g2 := F0 m 1020 ls [.int (xs (i + 1)), .ref (s.heap.size + 69 + 0), .int r]) rfl ?_
  refine w_arg (j := 2) E hM.2.2.2 hl rfl (by omega) dL_law_1020 dL_law_1021 dL_law_1023 dL_law_1024 dL_law_1025 ?_
  refine W.eq (g2 := F0 m 1026 ls [.int (xs (i + 2)), .int (xs (i + 1)), .ref (s.heap.size + 69 + 0), .int r]) rfl ?_
  refine w_arg (j := 3) E hM.2.2.2 hl rfl (by omega) dL_law_1026 dL_law_1027 dL_law_1029 dL_law_1030 dL_law_1031 ?_
  refine W.eq (g2 := F0 m 1032 ls [.int (xs (i + 3)), .int (xs (i + 2)), .int (xs (i + 1)), .ref (s.heap.size + 69 + 0), .int r]) rfl ?_
  refine w_callM [.int (xs (i + 1)), .int (xs (i + 2)), .int (xs (i + 3))] (rest := [.int r]) E hl.1 hM cv_L_112 (c11_first l D aC (s.heap.size + 69) h2) (Nat.le_of_ble_eq_true rfl) (Nat.le_of_ble_eq_true rfl) rfl rfl (Nat.le_of_ble_eq_true rfl) dL_law_1032 hf (fun H locs hM => ?_)
  refine W.eq (g2 := F0 m 1035 ls [.int r, .int r]) rfl ?_
  refine lv_icmp_eq (tgt := 1762) hx hb dL_law_1035 (by decide) (fun _ => ?_) (fun h => absurd rfl h)
  exact kk H locs c1 m1 hM hI1
set_option maxHeartbeats 4000000 in
set_option maxRecDepth 100000 in
theorem w_case20 (E : w_E p s m c D aC b L xs) {i : Nat} (hi : i + 6 ≤ L) (hM : w_M D aC s cm mm H locs) (hI : INV cm mm) (hl : lv_has ls 7 (w_lv s b i)) (hf : cells ≤ 601024 ∧ slots ≤ 7293034) (kk : ∀ (H1 : Heap) (locs1 : List Loc) (c1 m1 : g_M), w_M D aC s c1 m1 H1 locs1 → INV c1 m1 → W p l e room_1 s m #[Value.ref b] below meth c H1 locs1 cells slots Q (F0 m 1762 ls [])) : W p l e room_1 s m #[Value.ref b] below meth c H locs cells slots Q (F0 m 1040 ls []) := by
  have hx := E.1.1
  have hb := E.1.2.1
  obtain ⟨r, c1, m1, h1, h2, hI1⟩ := s_load (F := 5001) (by decide) hI (xs (i + 1))
  refine lv_aload_n hx hb dL_law_1040 rfl (lv_at hl 1 rfl) ?_
  refine w_arg (j := 1) E hM.2.2.2 hl rfl (by omega) dL_law_1041 dL_law_1042 dL_law_1044 dL_law_1045 dL_law_1046 ?_
  refine W.eq (g2 := F0 m 1047 ls [.int (xs (i + 1)), .ref (s.heap.size + 0)]) rfl ?_
  refine w_callC [.int (xs (i + 1))] (rest := []) E hl.1 hM cv_L_113 (c10_load l D aC s.heap.size h1) (Nat.le_of_ble_eq_true rfl) (Nat.le_of_ble_eq_true rfl) rfl rfl (Nat.le_of_ble_eq_true rfl) dL_law_1047 hf (fun H locs hM => ?_)
  refine W.eq (g2 := F0 m 1050 ls [.int r]) rfl ?_
  refine lv_aload_n hx hb dL_law_1050 rfl (lv_at hl 2 rfl) ?_
  refine w_arg (j := 1) E hM.2.2.2 hl rfl (by omega) dL_law_1051 dL_law_1052 dL_law_1054 dL_law_1055 dL_law_1056 ?_
  refine W.eq (g2 := F0 m 1057 ls [.int (xs (i + 1)), .ref (s.heap.size + 69 + 0), .int r]) rfl ?_
  refine w_callM [.int (xs (i + 1))] (rest := [.int r]) E hl.1 hM cv_L_116 (c11_load l D aC (s.heap.size + 69) h2) (Nat.le_of_ble_eq_true rfl) (Nat.le_of_ble_eq_true rfl) rfl rfl (Nat.le_of_ble_eq_true rfl) dL_law_1057 hf (fun H locs hM => ?_)
  refine W.eq (g2 := F0 m 1060 ls [.int r, .int r]) rfl ?_
  refine lv_icmp_eq (tgt := 1762) hx hb dL_law_1060 (by decide) (fun _ => ?_) (fun h => absurd rfl h)
  exact kk H locs c1 m1 hM hI1
set_option maxHeartbeats 4000000 in
set_option maxRecDepth 100000 in
theorem w_case21 (E : w_E p s m c D aC b L xs) {i : Nat} (hi : i + 6 ≤ L) (hM : w_M D aC s cm mm H locs) (hI : INV cm mm) (hl : lv_has ls 7 (w_lv s b i)) (hf : cells ≤ 601024 ∧ slots ≤ 7293034) (kk : ∀ (H1 : Heap) (locs1 : List Loc) (c1 m1 : g_M), w_M D aC s c1 m1 H1 locs1 → INV c1 m1 → W p l e room_1 s m #[Value.ref b] below meth c H1 locs1 cells slots Q (F0 m 1762 ls [])) : W p l e room_1 s m #[Value.ref b] below meth c H locs cells slots Q (F0 m 1065 ls []) := by
  have hx := E.1.1
  have hb := E.1.2.1
  obtain ⟨r, c1, m1, h1, h2, hI1⟩ := s_order (F := 5001) (by decide) hI (xs (i + 1))
  refine lv_aload_n hx hb dL_law_1065 rfl (lv_at hl 1 rfl) ?_
  refine w_arg (j := 1) E hM.2.2.2 hl rfl (by omega) dL_law_1066 dL_law_1067 dL_law_1069 dL_law_1070 dL_law_1071 ?_
  refine W.eq (g2 := F0 m 1072 ls [.int (xs (i + 1)), .ref (s.heap.size + 0)]) rfl ?_
  refine w_callC [.int (xs (i + 1))] (rest := []) E hl.1 hM cv_L_117 (c10_order l D aC s.heap.size h1) (Nat.le_of_ble_eq_true rfl) (Nat.le_of_ble_eq_true rfl) rfl rfl (Nat.le_of_ble_eq_true rfl) dL_law_1072 hf (fun H locs hM => ?_)
  refine W.eq (g2 := F0 m 1075 ls [.int r]) rfl ?_
  refine lv_aload_n hx hb dL_law_1075 rfl (lv_at hl 2 rfl) ?_
  refine w_arg (j := 1) E hM.2.2.2 hl rfl (by omega) dL_law_1076 dL_law_1077 dL_law_1079 dL_law_1080 dL_law_1081 ?_
  refine W.eq (g2 := F0 m 1082 ls [.int (xs (i + 1)), .ref (s.heap.size + 69 + 0), .int r]) rfl ?_
  refine w_callM [.int (xs (i + 1))] (rest := [.int r]) E hl.1 hM cv_L_120 (c11_order l D aC (s.heap.size + 69) h2) (Nat.le_of_ble_eq_true rfl) (Nat.le_of_ble_eq_true rfl) rfl rfl (Nat.le_of_ble_eq_true rfl) dL_law_1082 hf (fun H locs hM => ?_)
  refine W.eq (g2 := F0 m 1085 ls [.int r, .int r]) rfl ?_
  refine lv_icmp_eq (tgt := 1762) hx hb dL_law_1085 (by decide) (fun _ => ?_) (fun h => absurd rfl h)
  exact kk H locs c1 m1 hM hI1
set_option maxHeartbeats 4000000 in
set_option maxRecDepth 100000 in
theorem w_case22 (E : w_E p s m c D aC b L xs) {i : Nat} (hi : i + 6 ≤ L) (hM : w_M D aC s cm mm H locs) (hI : INV cm mm) (hl : lv_has ls 7 (w_lv s b i)) (hf : cells ≤ 601024 ∧ slots ≤ 7293034) (kk : ∀ (H1 : Heap) (locs1 : List Loc) (c1 m1 : g_M), w_M D aC s c1 m1 H1 locs1 → INV c1 m1 → W p l e room_1 s m #[Value.ref b] below meth c H1 locs1 cells slots Q (F0 m 1762 ls [])) : W p l e room_1 s m #[Value.ref b] below meth c H locs cells slots Q (F0 m 1090 ls []) := by
  have hx := E.1.1
  have hb := E.1.2.1
  obtain ⟨r, m1, h1, h2, hI1⟩ := s_swaps (F := 5001) (by decide) hI 
  refine lv_aload_n hx hb dL_law_1090 rfl (lv_at hl 1 rfl) ?_
  refine w_callC [] (rest := []) E hl.1 hM cv_L_121 (c10_swaps l D aC s.heap.size h1) (Nat.le_of_ble_eq_true rfl) (Nat.le_of_ble_eq_true rfl) rfl rfl (Nat.le_of_ble_eq_true rfl) dL_law_1091 hf (fun H locs hM => ?_)
  refine W.eq (g2 := F0 m 1094 ls [.int r]) rfl ?_
  refine lv_aload_n hx hb dL_law_1094 rfl (lv_at hl 2 rfl) ?_
  refine w_callM [] (rest := [.int r]) E hl.1 hM cv_L_124 (c11_swaps l D aC (s.heap.size + 69) h2) (Nat.le_of_ble_eq_true rfl) (Nat.le_of_ble_eq_true rfl) rfl rfl (Nat.le_of_ble_eq_true rfl) dL_law_1095 hf (fun H locs hM => ?_)
  refine W.eq (g2 := F0 m 1098 ls [.int r, .int r]) rfl ?_
  refine lv_icmp_eq (tgt := 1762) hx hb dL_law_1098 (by decide) (fun _ => ?_) (fun h => absurd rfl h)
  exact kk H locs cm m1 hM hI1
set_option maxHeartbeats 4000000 in
set_option maxRecDepth 100000 in
theorem w_case23 (E : w_E p s m c D aC b L xs) {i : Nat} (hi : i + 6 ≤ L) (hM : w_M D aC s cm mm H locs) (hI : INV cm mm) (hl : lv_has ls 7 (w_lv s b i)) (hf : cells ≤ 601024 ∧ slots ≤ 7293034) (kk : ∀ (H1 : Heap) (locs1 : List Loc) (c1 m1 : g_M), w_M D aC s c1 m1 H1 locs1 → INV c1 m1 → W p l e room_1 s m #[Value.ref b] below meth c H1 locs1 cells slots Q (F0 m 1762 ls [])) : W p l e room_1 s m #[Value.ref b] below meth c H locs cells slots Q (F0 m 1103 ls []) := by
  have hx := E.1.1
  have hb := E.1.2.1
  obtain ⟨r, m1, h1, h2, hI1⟩ := s_together (F := 5001) (by decide) hI (xs (i + 1)) (xs (i + 2)) (xs (i + 3))
  refine lv_aload_n hx hb dL_law_1103 rfl (lv_at hl 1 rfl) ?_
  refine w_arg (j := 1) E hM.2.2.2 hl rfl (by omega) dL_law_1104 dL_law_1105 dL_law_1107 dL_law_1108 dL_law_1109 ?_
  refine W.eq (g2 := F0 m 1110 ls [.int (xs (i + 1)), .ref (s.heap.size + 0)]) rfl ?_
  refine w_arg (j := 2) E hM.2.2.2 hl rfl (by omega) dL_law_1110 dL_law_1111 dL_law_1113 dL_law_1114 dL_law_1115 ?_
  refine W.eq (g2 := F0 m 1116 ls [.int (xs (i + 2)), .int (xs (i + 1)), .ref (s.heap.size + 0)]) rfl ?_
  refine w_arg (j := 3) E hM.2.2.2 hl rfl (by omega) dL_law_1116 dL_law_1117 dL_law_1119 dL_law_1120 dL_law_1121 ?_
  refine W.eq (g2 := F0 m 1122 ls [.int (xs (i + 3)), .int (xs (i + 2)), .int (xs (i + 1)), .ref (s.heap.size + 0)]) rfl ?_
  refine w_callC [.int (xs (i + 1)), .int (xs (i + 2)), .int (xs (i + 3))] (rest := []) E hl.1 hM cv_L_125 (c10_together l D aC s.heap.size h1) (Nat.le_of_ble_eq_true rfl) (Nat.le_of_ble_eq_true rfl) rfl rfl (Nat.le_of_ble_eq_true rfl) dL_law_1122 hf (fun H locs hM => ?_)
  refine W.eq (g2 := F0 m 1125 ls [.int r]) rfl ?_
  refine lv_aload_n hx hb dL_law_1125 rfl (lv_at hl 2 rfl) ?_
  refine w_arg (j := 1) E hM.2.2.2 hl rfl (by omega) dL_law_1126 dL_law_1127 dL_law_1129 dL_law_1130 dL_law_1131 ?_
  refine W.eq (g2 := F0 m 1132 ls [.int (xs (i + 1)), .ref (s.heap.size + 69 + 0), .int r]) rfl ?_
  refine w_arg (j := 2) E hM.2.2.2 hl rfl (by omega) dL_law_1132 dL_law_1133 dL_law_1135 dL_law_1136 dL_law_1137 ?_
  refine W.eq (g2 := F0 m 1138 ls [.int (xs (i + 2)), .int (xs (i + 1)), .ref (s.heap.size + 69 + 0), .int r]) rfl ?_
  refine w_arg (j := 3) E hM.2.2.2 hl rfl (by omega) dL_law_1138 dL_law_1139 dL_law_1141 dL_law_1142 dL_law_1143 ?_
  refine W.eq (g2 := F0 m 1144 ls [.int (xs (i + 3)), .int (xs (i + 2)), .int (xs (i + 1)), .ref (s.heap.size + 69 + 0), .int r]) rfl ?_
  refine w_callM [.int (xs (i + 1)), .int (xs (i + 2)), .int (xs (i + 3))] (rest := [.int r]) E hl.1 hM cv_L_128 (c11_together l D aC (s.heap.size + 69) h2) (Nat.le_of_ble_eq_true rfl) (Nat.le_of_ble_eq_true rfl) rfl rfl (Nat.le_of_ble_eq_true rfl) dL_law_1144 hf (fun H locs hM => ?_)
  refine W.eq (g2 := F0 m 1147 ls [.int r, .int r]) rfl ?_
  refine lv_icmp_eq (tgt := 1762) hx hb dL_law_1147 (by decide) (fun _ => ?_) (fun h => absurd rfl h)
  exact kk H locs cm m1 hM hI1
set_option maxHeartbeats 4000000 in
set_option maxRecDepth 100000 in
theorem w_case24 (E : w_E p s m c D aC b L xs) {i : Nat} (hi : i + 6 ≤ L) (hM : w_M D aC s cm mm H locs) (hI : INV cm mm) (hl : lv_has ls 7 (w_lv s b i)) (hf : cells ≤ 601024 ∧ slots ≤ 7293034) (kk : ∀ (H1 : Heap) (locs1 : List Loc) (c1 m1 : g_M), w_M D aC s c1 m1 H1 locs1 → INV c1 m1 → W p l e room_1 s m #[Value.ref b] below meth c H1 locs1 cells slots Q (F0 m 1762 ls [])) : W p l e room_1 s m #[Value.ref b] below meth c H locs cells slots Q (F0 m 1152 ls []) := by
  have hx := E.1.1
  have hb := E.1.2.1
  obtain ⟨r, m1, h1, h2, hI1⟩ := s_needs (F := 5001) (by decide) hI (xs (i + 1)) (xs (i + 2)) (xs (i + 3))
  refine lv_aload_n hx hb dL_law_1152 rfl (lv_at hl 1 rfl) ?_
  refine w_arg (j := 1) E hM.2.2.2 hl rfl (by omega) dL_law_1153 dL_law_1154 dL_law_1156 dL_law_1157 dL_law_1158 ?_
  refine W.eq (g2 := F0 m 1159 ls [.int (xs (i + 1)), .ref (s.heap.size + 0)]) rfl ?_
  refine w_arg (j := 2) E hM.2.2.2 hl rfl (by omega) dL_law_1159 dL_law_1160 dL_law_1162 dL_law_1163 dL_law_1164 ?_
  refine W.eq (g2 := F0 m 1165 ls [.int (xs (i + 2)), .int (xs (i + 1)), .ref (s.heap.size + 0)]) rfl ?_
  refine w_arg (j := 3) E hM.2.2.2 hl rfl (by omega) dL_law_1165 dL_law_1166 dL_law_1168 dL_law_1169 dL_law_1170 ?_
  refine W.eq (g2 := F0 m 1171 ls [.int (xs (i + 3)), .int (xs (i + 2)), .int (xs (i + 1)), .ref (s.heap.size + 0)]) rfl ?_
  refine w_callC [.int (xs (i + 1)), .int (xs (i + 2)), .int (xs (i + 3))] (rest := []) E hl.1 hM cv_L_129 (c10_needs l D aC s.heap.size h1) (Nat.le_of_ble_eq_true rfl) (Nat.le_of_ble_eq_true rfl) rfl rfl (Nat.le_of_ble_eq_true rfl) dL_law_1171 hf (fun H locs hM => ?_)
  refine W.eq (g2 := F0 m 1174 ls [.int r]) rfl ?_
  refine lv_aload_n hx hb dL_law_1174 rfl (lv_at hl 2 rfl) ?_
  refine w_arg (j := 1) E hM.2.2.2 hl rfl (by omega) dL_law_1175 dL_law_1176 dL_law_1178 dL_law_1179 dL_law_1180 ?_
  refine W.eq (g2 := F0 m 1181 ls [.int (xs (i + 1)), .ref (s.heap.size + 69 + 0), .int r]) rfl ?_
  refine w_arg (j := 2) E hM.2.2.2 hl rfl (by omega) dL_law_1181 dL_law_1182 dL_law_1184 dL_law_1185 dL_law_1186 ?_
  refine W.eq (g2 := F0 m 1187 ls [.int (xs (i + 2)), .int (xs (i + 1)), .ref (s.heap.size + 69 + 0), .int r]) rfl ?_
  refine w_arg (j := 3) E hM.2.2.2 hl rfl (by omega) dL_law_1187 dL_law_1188 dL_law_1190 dL_law_1191 dL_law_1192 ?_
  refine W.eq (g2 := F0 m 1193 ls [.int (xs (i + 3)), .int (xs (i + 2)), .int (xs (i + 1)), .ref (s.heap.size + 69 + 0), .int r]) rfl ?_
  refine w_callM [.int (xs (i + 1)), .int (xs (i + 2)), .int (xs (i + 3))] (rest := [.int r]) E hl.1 hM cv_L_132 (c11_needs l D aC (s.heap.size + 69) h2) (Nat.le_of_ble_eq_true rfl) (Nat.le_of_ble_eq_true rfl) rfl rfl (Nat.le_of_ble_eq_true rfl) dL_law_1193 hf (fun H locs hM => ?_)
  refine W.eq (g2 := F0 m 1196 ls [.int r, .int r]) rfl ?_
  refine lv_icmp_eq (tgt := 1762) hx hb dL_law_1196 (by decide) (fun _ => ?_) (fun h => absurd rfl h)
  exact kk H locs cm m1 hM hI1
set_option maxHeartbeats 4000000 in
set_option maxRecDepth 100000 in
theorem w_case25 (E : w_E p s m c D aC b L xs) {i : Nat} (hi : i + 6 ≤ L) (hM : w_M D aC s cm mm H locs) (hI : INV cm mm) (hl : lv_has ls 7 (w_lv s b i)) (hf : cells ≤ 601024 ∧ slots ≤ 7293034) (kk : ∀ (H1 : Heap) (locs1 : List Loc) (c1 m1 : g_M), w_M D aC s c1 m1 H1 locs1 → INV c1 m1 → W p l e room_1 s m #[Value.ref b] below meth c H1 locs1 cells slots Q (F0 m 1762 ls [])) : W p l e room_1 s m #[Value.ref b] below meth c H locs cells slots Q (F0 m 1201 ls []) := by
  have hx := E.1.1
  have hb := E.1.2.1
  obtain ⟨r, m1, h1, h2, hI1⟩ := s_cheap (F := 5001) (by decide) hI (xs (i + 1)) (xs (i + 2)) (xs (i + 3))
  refine lv_aload_n hx hb dL_law_1201 rfl (lv_at hl 1 rfl) ?_
  refine w_arg (j := 1) E hM.2.2.2 hl rfl (by omega) dL_law_1202 dL_law_1203 dL_law_1205 dL_law_1206 dL_law_1207 ?_
  refine W.eq (g2 := F0 m 1208 ls [.int (xs (i + 1)), .ref (s.heap.size + 0)]) rfl ?_
  refine w_arg (j := 2) E hM.2.2.2 hl rfl (by omega) dL_law_1208 dL_law_1209 dL_law_1211 dL_law_1212 dL_law_1213 ?_
  refine W.eq (g2 := F0 m 1214 ls [.int (xs (i + 2)), .int (xs (i + 1)), .ref (s.heap.size + 0)]) rfl ?_
  refine w_arg (j := 3) E hM.2.2.2 hl rfl (by omega) dL_law_1214 dL_law_1215 dL_law_1217 dL_law_1218 dL_law_1219 ?_
  refine W.eq (g2 := F0 m 1220 ls [.int (xs (i + 3)), .int (xs (i + 2)), .int (xs (i + 1)), .ref (s.heap.size + 0)]) rfl ?_
  refine w_callC [.int (xs (i + 1)), .int (xs (i + 2)), .int (xs (i + 3))] (rest := []) E hl.1 hM cv_L_133 (c10_cheap l D aC s.heap.size h1) (Nat.le_of_ble_eq_true rfl) (Nat.le_of_ble_eq_true rfl) rfl rfl (Nat.le_of_ble_eq_true rfl) dL_law_1220 hf (fun H locs hM => ?_)
  refine W.eq (g2 := F0 m 1223 ls [.int r]) rfl ?_
  refine lv_aload_n hx hb dL_law_1223 rfl (lv_at hl 2 rfl) ?_
  refine w_arg (j := 1) E hM.2.2.2 hl rfl (by omega) dL_law_1224 dL_law_1225 dL_law_1227 dL_law_1228 dL_law_1229 ?_
  refine W.eq (g2 := F0 m 1230 ls [.int (xs (i + 1)), .ref (s.heap.size + 69 + 0), .int r]) rfl ?_
  refine w_arg (j := 2) E hM.2.2.2 hl rfl (by omega) dL_law_1230 dL_law_1231 dL_law_1233 dL_law_1234 dL_law_1235 ?_
  refine W.eq (g2 := F0 m 1236 ls [.int (xs (i + 2)), .int (xs (i + 1)), .ref (s.heap.size + 69 + 0), .int r]) rfl ?_
  refine w_arg (j := 3) E hM.2.2.2 hl rfl (by omega) dL_law_1236 dL_law_1237 dL_law_1239 dL_law_1240 dL_law_1241 ?_
  refine W.eq (g2 := F0 m 1242 ls [.int (xs (i + 3)), .int (xs (i + 2)), .int (xs (i + 1)), .ref (s.heap.size + 69 + 0), .int r]) rfl ?_
  refine w_callM [.int (xs (i + 1)), .int (xs (i + 2)), .int (xs (i + 3))] (rest := [.int r]) E hl.1 hM cv_L_136 (c11_cheap l D aC (s.heap.size + 69) h2) (Nat.le_of_ble_eq_true rfl) (Nat.le_of_ble_eq_true rfl) rfl rfl (Nat.le_of_ble_eq_true rfl) dL_law_1242 hf (fun H locs hM => ?_)
  refine W.eq (g2 := F0 m 1245 ls [.int r, .int r]) rfl ?_
  refine lv_icmp_eq (tgt := 1762) hx hb dL_law_1245 (by decide) (fun _ => ?_) (fun h => absurd rfl h)
  exact kk H locs cm m1 hM hI1
set_option maxHeartbeats 4000000 in
set_option maxRecDepth 100000 in
theorem w_case26 (E : w_E p s m c D aC b L xs) {i : Nat} (hi : i + 6 ≤ L) (hM : w_M D aC s cm mm H locs) (hI : INV cm mm) (hl : lv_has ls 7 (w_lv s b i)) (hf : cells ≤ 601024 ∧ slots ≤ 7293034) (kk : ∀ (H1 : Heap) (locs1 : List Loc) (c1 m1 : g_M), w_M D aC s c1 m1 H1 locs1 → INV c1 m1 → W p l e room_1 s m #[Value.ref b] below meth c H1 locs1 cells slots Q (F0 m 1762 ls [])) : W p l e room_1 s m #[Value.ref b] below meth c H locs cells slots Q (F0 m 1250 ls []) := by
  have hx := E.1.1
  have hb := E.1.2.1
  obtain ⟨r, m1, h1, h2, hI1⟩ := s_rests (F := 5001) (by decide) hI (xs (i + 1)) (xs (i + 2)) (xs (i + 3))
  refine lv_aload_n hx hb dL_law_1250 rfl (lv_at hl 1 rfl) ?_
  refine w_arg (j := 1) E hM.2.2.2 hl rfl (by omega) dL_law_1251 dL_law_1252 dL_law_1254 dL_law_1255 dL_law_1256 ?_
  refine W.eq (g2 := F0 m 1257 ls [.int (xs (i + 1)), .ref (s.heap.size + 0)]) rfl ?_
  refine w_arg (j := 2) E hM.2.2.2 hl rfl (by omega) dL_law_1257 dL_law_1258 dL_law_1260 dL_law_1261 dL_law_1262 ?_
  refine W.eq (g2 := F0 m 1263 ls [.int (xs (i + 2)), .int (xs (i + 1)), .ref (s.heap.size + 0)]) rfl ?_
  refine w_arg (j := 3) E hM.2.2.2 hl rfl (by omega) dL_law_1263 dL_law_1264 dL_law_1266 dL_law_1267 dL_law_1268 ?_
  refine W.eq (g2 := F0 m 1269 ls [.int (xs (i + 3)), .int (xs (i + 2)), .int (xs (i + 1)), .ref (s.heap.size + 0)]) rfl ?_
  refine w_callC [.int (xs (i + 1)), .int (xs (i + 2)), .int (xs (i + 3))] (rest := []) E hl.1 hM cv_L_137 (c10_rests l D aC s.heap.size h1) (Nat.le_of_ble_eq_true rfl) (Nat.le_of_ble_eq_true rfl) rfl rfl (Nat.le_of_ble_eq_true rfl) dL_law_1269 hf (fun H locs hM => ?_)
  refine W.eq (g2 := F0 m 1272 ls [.int r]) rfl ?_
  refine lv_aload_n hx hb dL_law_1272 rfl (lv_at hl 2 rfl) ?_
  refine w_arg (j := 1) E hM.2.2.2 hl rfl (by omega) dL_law_1273 dL_law_1274 dL_law_1276 dL_law_1277 dL_law_1278 ?_
  refine W.eq (g2 := F0 m 1279 ls [.int (xs (i + 1)), .ref (s.heap.size + 69 + 0), .int r]) rfl ?_
  refine w_arg (j := 2) E hM.2.2.2 hl rfl (by omega) dL_law_1279 dL_law_1280 dL_law_1282 dL_law_1283 dL_law_1284 ?_
  refine W.eq (g2 := F0 m 1285 ls [.int (xs (i + 2)), .int (xs (i + 1)), .ref (s.heap.size + 69 + 0), .int r]) rfl ?_
  refine w_arg (j := 3) E hM.2.2.2 hl rfl (by omega) dL_law_1285 dL_law_1286 dL_law_1288 dL_law_1289 dL_law_1290 ?_
  refine W.eq (g2 := F0 m 1291 ls [.int (xs (i + 3)), .int (xs (i + 2)), .int (xs (i + 1)), .ref (s.heap.size + 69 + 0), .int r]) rfl ?_
  refine w_callM [.int (xs (i + 1)), .int (xs (i + 2)), .int (xs (i + 3))] (rest := [.int r]) E hl.1 hM cv_L_140 (c11_rests l D aC (s.heap.size + 69) h2) (Nat.le_of_ble_eq_true rfl) (Nat.le_of_ble_eq_true rfl) rfl rfl (Nat.le_of_ble_eq_true rfl) dL_law_1291 hf (fun H locs hM => ?_)
  refine W.eq (g2 := F0 m 1294 ls [.int r, .int r]) rfl ?_
  refine lv_icmp_eq (tgt := 1762) hx hb dL_law_1294 (by decide) (fun _ => ?_) (fun h => absurd rfl h)
  exact kk H locs cm m1 hM hI1
set_option maxHeartbeats 4000000 in
set_option maxRecDepth 100000 in
theorem w_case27 (E : w_E p s m c D aC b L xs) {i : Nat} (hi : i + 6 ≤ L) (hM : w_M D aC s cm mm H locs) (hI : INV cm mm) (hl : lv_has ls 7 (w_lv s b i)) (hf : cells ≤ 601024 ∧ slots ≤ 7293034) (kk : ∀ (H1 : Heap) (locs1 : List Loc) (c1 m1 : g_M), w_M D aC s c1 m1 H1 locs1 → INV c1 m1 → W p l e room_1 s m #[Value.ref b] below meth c H1 locs1 cells slots Q (F0 m 1762 ls [])) : W p l e room_1 s m #[Value.ref b] below meth c H locs cells slots Q (F0 m 1299 ls []) := by
  have hx := E.1.1
  have hb := E.1.2.1
  obtain ⟨r, m1, h1, h2, hI1⟩ := s_rest (F := 5001) (by decide) hI (xs (i + 1)) (xs (i + 2)) (xs (i + 3)) (xs (i + 4))
  refine lv_aload_n hx hb dL_law_1299 rfl (lv_at hl 1 rfl) ?_
  refine w_arg (j := 1) E hM.2.2.2 hl rfl (by omega) dL_law_1300 dL_law_1301 dL_law_1303 dL_law_1304 dL_law_1305 ?_
  refine W.eq (g2 := F0 m 1306 ls [.int (xs (i + 1)), .ref (s.heap.size + 0)]) rfl ?_
  refine w_arg (j := 2) E hM.2.2.2 hl rfl (by omega) dL_law_1306 dL_law_1307 dL_law_1309 dL_law_1310 dL_law_1311 ?_
  refine W.eq (g2 := F0 m 1312 ls [.int (xs (i + 2)), .int (xs (i + 1)), .ref (s.heap.size + 0)]) rfl ?_
  refine w_arg (j := 3) E hM.2.2.2 hl rfl (by omega) dL_law_1312 dL_law_1313 dL_law_1315 dL_law_1316 dL_law_1317 ?_
  refine W.eq (g2 := F0 m 1318 ls [.int (xs (i + 3)), .int (xs (i + 2)), .int (xs (i + 1)), .ref (s.heap.size + 0)]) rfl ?_
  refine w_arg (j := 4) E hM.2.2.2 hl rfl (by omega) dL_law_1318 dL_law_1319 dL_law_1321 dL_law_1322 dL_law_1323 ?_
  refine W.eq (g2 := F0 m 1324 ls [.int (xs (i + 4)), .int (xs (i + 3)), .int (xs (i + 2)), .int (xs (i + 1)), .ref (s.heap.size + 0)]) rfl ?_
  refine w_callC [.int (xs (i + 1)), .int (xs (i + 2)), .int (xs (i + 3)), .int (xs (i + 4))] (rest := []) E hl.1 hM cv_L_141 (c10_rest l D aC s.heap.size h1) (Nat.le_of_ble_eq_true rfl) (Nat.le_of_ble_eq_true rfl) rfl rfl (Nat.le_of_ble_eq_true rfl) dL_law_1324 hf (fun H locs hM => ?_)
  refine W.eq (g2 := F0 m 1327 ls [.int r]) rfl ?_
  refine lv_aload_n hx hb dL_law_1327 rfl (lv_at hl 2 rfl) ?_
  refine w_arg (j := 1) E hM.2.2.2 hl rfl (by omega) dL_law_1328 dL_law_1329 dL_law_1331 dL_law_1332 dL_law_1333 ?_
  refine W.eq (g2 := F0 m 1334 ls [.int (xs (i + 1)), .ref (s.heap.size + 69 + 0), .int r]) rfl ?_
  refine w_arg (j := 2) E hM.2.2.2 hl rfl (by omega) dL_law_1334 dL_law_1335 dL_law_1337 dL_law_1338 dL_law_1339 ?_
  refine W.eq (g2 := F0 m 1340 ls [.int (xs (i + 2)), .int (xs (i + 1)), .ref (s.heap.size + 69 + 0), .int r]) rfl ?_
  refine w_arg (j := 3) E hM.2.2.2 hl rfl (by omega) dL_law_1340 dL_law_1341 dL_law_1343 dL_law_1344 dL_law_1345 ?_
  refine W.eq (g2 := F0 m 1346 ls [.int (xs (i + 3)), .int (xs (i + 2)), .int (xs (i + 1)), .ref (s.heap.size + 69 + 0), .int r]) rfl ?_
  refine w_arg (j := 4) E hM.2.2.2 hl rfl (by omega) dL_law_1346 dL_law_1347 dL_law_1349 dL_law_1350 dL_law_1351 ?_
  refine W.eq (g2 := F0 m 1352 ls [.int (xs (i + 4)), .int (xs (i + 3)), .int (xs (i + 2)), .int (xs (i + 1)), .ref (s.heap.size + 69 + 0), .int r]) rfl ?_
  refine w_callM [.int (xs (i + 1)), .int (xs (i + 2)), .int (xs (i + 3)), .int (xs (i + 4))] (rest := [.int r]) E hl.1 hM cv_L_145 (c11_rest l D aC (s.heap.size + 69) h2) (Nat.le_of_ble_eq_true rfl) (Nat.le_of_ble_eq_true rfl) rfl rfl (Nat.le_of_ble_eq_true rfl) dL_law_1352 hf (fun H locs hM => ?_)
  refine W.eq (g2 := F0 m 1355 ls [.int r, .int r]) rfl ?_
  refine lv_icmp_eq (tgt := 1762) hx hb dL_law_1355 (by decide) (fun _ => ?_) (fun h => absurd rfl h)
  exact kk H locs cm m1 hM hI1
set_option maxHeartbeats 4000000 in
set_option maxRecDepth 100000 in
theorem w_case28 (E : w_E p s m c D aC b L xs) {i : Nat} (hi : i + 6 ≤ L) (hM : w_M D aC s cm mm H locs) (hI : INV cm mm) (hl : lv_has ls 7 (w_lv s b i)) (hf : cells ≤ 601024 ∧ slots ≤ 7293034) (kk : ∀ (H1 : Heap) (locs1 : List Loc) (c1 m1 : g_M), w_M D aC s c1 m1 H1 locs1 → INV c1 m1 → W p l e room_1 s m #[Value.ref b] below meth c H1 locs1 cells slots Q (F0 m 1762 ls [])) : W p l e room_1 s m #[Value.ref b] below meth c H locs cells slots Q (F0 m 1360 ls []) := by
  have hx := E.1.1
  have hb := E.1.2.1
  obtain ⟨r, m1, h1, h2, hI1⟩ := s_calm (F := 5001) (by decide) hI (xs (i + 1)) (xs (i + 2))
  refine lv_aload_n hx hb dL_law_1360 rfl (lv_at hl 1 rfl) ?_
  refine w_arg (j := 1) E hM.2.2.2 hl rfl (by omega) dL_law_1361 dL_law_1362 dL_law_1364 dL_law_1365 dL_law_1366 ?_
  refine W.eq (g2 := F0 m 1367 ls [.int (xs (i + 1)), .ref (s.heap.size + 0)]) rfl ?_
  refine w_arg (j := 2) E hM.2.2.2 hl rfl (by omega) dL_law_1367 dL_law_1368 dL_law_1370 dL_law_1371 dL_law_1372 ?_
  refine W.eq (g2 := F0 m 1373 ls [.int (xs (i + 2)), .int (xs (i + 1)), .ref (s.heap.size + 0)]) rfl ?_
  refine w_callC [.int (xs (i + 1)), .int (xs (i + 2))] (rest := []) E hl.1 hM cv_L_146 (c10_calm l D aC s.heap.size h1) (Nat.le_of_ble_eq_true rfl) (Nat.le_of_ble_eq_true rfl) rfl rfl (Nat.le_of_ble_eq_true rfl) dL_law_1373 hf (fun H locs hM => ?_)
  refine W.eq (g2 := F0 m 1376 ls [.long r]) rfl ?_
  refine lv_aload_n hx hb dL_law_1376 rfl (lv_at hl 2 rfl) ?_
  refine w_arg (j := 1) E hM.2.2.2 hl rfl (by omega) dL_law_1377 dL_law_1378 dL_law_1380 dL_law_1381 dL_law_1382 ?_
  refine W.eq (g2 := F0 m 1383 ls [.int (xs (i + 1)), .ref (s.heap.size + 69 + 0), .long r]) rfl ?_
  refine w_arg (j := 2) E hM.2.2.2 hl rfl (by omega) dL_law_1383 dL_law_1384 dL_law_1386 dL_law_1387 dL_law_1388 ?_
  refine W.eq (g2 := F0 m 1389 ls [.int (xs (i + 2)), .int (xs (i + 1)), .ref (s.heap.size + 69 + 0), .long r]) rfl ?_
  refine w_callM [.int (xs (i + 1)), .int (xs (i + 2))] (rest := [.long r]) E hl.1 hM cv_L_150 (c11_calm l D aC (s.heap.size + 69) h2) (Nat.le_of_ble_eq_true rfl) (Nat.le_of_ble_eq_true rfl) rfl rfl (Nat.le_of_ble_eq_true rfl) dL_law_1389 hf (fun H locs hM => ?_)
  refine W.eq (g2 := F0 m 1392 ls [.long r, .long r]) rfl ?_
  refine W.lcmp hx hb dL_law_1392 ?_
  refine lv_if_eq (tgt := 1762) hx hb dL_law_1393 (by decide) (fun _ => ?_) (fun h => absurd (w_cmp r) h)
  exact kk H locs cm m1 hM hI1
end WC
