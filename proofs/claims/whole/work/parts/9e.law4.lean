/-! the law's cases -/
theorem dL_law_848 : decode cL_law 848 = .ok (.aload_n 1, 1) := by decide +kernel
theorem dL_law_849 : decode cL_law 849 = .ok (.aload_n 0, 1) := by decide +kernel
theorem dL_law_850 : decode cL_law 850 = .ok (.iload_n 3, 1) := by decide +kernel
theorem dL_law_851 : decode cL_law 851 = .ok (.iconst 1, 1) := by decide +kernel
theorem dL_law_852 : decode cL_law 852 = .ok (.iadd, 1) := by decide +kernel
theorem dL_law_853 : decode cL_law 853 = .ok (.iaload, 1) := by decide +kernel
theorem dL_law_854 : decode cL_law 854 = .ok (.aload_n 0, 1) := by decide +kernel
theorem dL_law_855 : decode cL_law 855 = .ok (.iload_n 3, 1) := by decide +kernel
theorem dL_law_856 : decode cL_law 856 = .ok (.iconst 2, 1) := by decide +kernel
theorem dL_law_857 : decode cL_law 857 = .ok (.iadd, 1) := by decide +kernel
theorem dL_law_858 : decode cL_law 858 = .ok (.iaload, 1) := by decide +kernel
theorem dL_law_859 : decode cL_law 859 = .ok (.aload_n 0, 1) := by decide +kernel
theorem dL_law_860 : decode cL_law 860 = .ok (.iload_n 3, 1) := by decide +kernel
theorem dL_law_861 : decode cL_law 861 = .ok (.iconst 3, 1) := by decide +kernel
theorem dL_law_862 : decode cL_law 862 = .ok (.iadd, 1) := by decide +kernel
theorem dL_law_863 : decode cL_law 863 = .ok (.iaload, 1) := by decide +kernel
theorem dL_law_864 : decode cL_law 864 = .ok (.aload_n 0, 1) := by decide +kernel
theorem dL_law_865 : decode cL_law 865 = .ok (.iload_n 3, 1) := by decide +kernel
theorem dL_law_866 : decode cL_law 866 = .ok (.iconst 4, 1) := by decide +kernel
theorem dL_law_867 : decode cL_law 867 = .ok (.iadd, 1) := by decide +kernel
theorem dL_law_868 : decode cL_law 868 = .ok (.iaload, 1) := by decide +kernel
theorem dL_law_869 : decode cL_law 869 = .ok (.invokevirtual 89, 3) := by decide +kernel
theorem dL_law_872 : decode cL_law 872 = .ok (.aload_n 2, 1) := by decide +kernel
theorem dL_law_873 : decode cL_law 873 = .ok (.aload_n 0, 1) := by decide +kernel
theorem dL_law_874 : decode cL_law 874 = .ok (.iload_n 3, 1) := by decide +kernel
theorem dL_law_875 : decode cL_law 875 = .ok (.iconst 1, 1) := by decide +kernel
theorem dL_law_876 : decode cL_law 876 = .ok (.iadd, 1) := by decide +kernel
theorem dL_law_877 : decode cL_law 877 = .ok (.iaload, 1) := by decide +kernel
theorem dL_law_878 : decode cL_law 878 = .ok (.aload_n 0, 1) := by decide +kernel
theorem dL_law_879 : decode cL_law 879 = .ok (.iload_n 3, 1) := by decide +kernel
theorem dL_law_880 : decode cL_law 880 = .ok (.iconst 2, 1) := by decide +kernel
theorem dL_law_881 : decode cL_law 881 = .ok (.iadd, 1) := by decide +kernel
theorem dL_law_882 : decode cL_law 882 = .ok (.iaload, 1) := by decide +kernel
theorem dL_law_883 : decode cL_law 883 = .ok (.aload_n 0, 1) := by decide +kernel
theorem dL_law_884 : decode cL_law 884 = .ok (.iload_n 3, 1) := by decide +kernel
theorem dL_law_885 : decode cL_law 885 = .ok (.iconst 3, 1) := by decide +kernel
theorem dL_law_886 : decode cL_law 886 = .ok (.iadd, 1) := by decide +kernel
theorem dL_law_887 : decode cL_law 887 = .ok (.iaload, 1) := by decide +kernel
theorem dL_law_888 : decode cL_law 888 = .ok (.aload_n 0, 1) := by decide +kernel
theorem dL_law_889 : decode cL_law 889 = .ok (.iload_n 3, 1) := by decide +kernel
theorem dL_law_890 : decode cL_law 890 = .ok (.iconst 4, 1) := by decide +kernel
theorem dL_law_891 : decode cL_law 891 = .ok (.iadd, 1) := by decide +kernel
theorem dL_law_892 : decode cL_law 892 = .ok (.iaload, 1) := by decide +kernel
theorem dL_law_893 : decode cL_law 893 = .ok (.invokevirtual 93, 3) := by decide +kernel
theorem dL_law_896 : decode cL_law 896 = .ok (.if_icmp .eq 1003, 3) := by decide +kernel
theorem lb_89 : mz_MB RL 89 yX11_inner cX11_inner 6 (some .int) 4 := ⟨mz_tb 611 (by decide +kernel) rfl, mz_tb 40 (by decide +kernel) rfl, mz_tb 614 (by decide +kernel) rfl, by decide, by decide, by decide +kernel⟩
theorem li_X11_inner : Cond.instanceMethod yX11_inner ∈ mz_tbl ∧ Cond.selects RX11 yX11_inner yX11_inner ∈ mz_tbl := ⟨mz_tb 612 (by decide +kernel) rfl, mz_tb 613 (by decide +kernel) rfl⟩
theorem lb_93 : mz_MB RL 93 yX12_inner cX12_inner 6 (some .int) 4 := ⟨mz_tb 1269 (by decide +kernel) rfl, mz_tb 45 (by decide +kernel) rfl, mz_tb 1272 (by decide +kernel) rfl, by decide, by decide, by decide +kernel⟩
theorem li_X12_inner : Cond.instanceMethod yX12_inner ∈ mz_tbl ∧ Cond.selects RX12 yX12_inner yX12_inner ∈ mz_tbl := ⟨mz_tb 1270 (by decide +kernel) rfl, mz_tb 1271 (by decide +kernel) rfl⟩
section
variable {p : Program} {l : Launch} {e : Env} {s : State} {m : MethodId} {below : List Frame} {meth : Method} {c : Code} {H : Heap} {locs : List Loc} {cells slots : Nat} {Q : State → Prop} {ls : Array Slot} {g : mz_G} {b L : Nat} {xs : Nat → Int32} {VB o q k : Nat} {rs : mz_RS} {h : mz_H} {x3 : Int32}
set_option maxHeartbeats 4000000 in
set_option maxRecDepth 100000 in
theorem lc_18 (X : mz_X p g RL cL_law 4 (fun q : Nat => s.heap.size ≤ q) s m #[Value.ref b] c) (hX : va_X b L xs s s.heap) (hbl : b < s.heap.size) (hin : ∀ j : Nat, j < 8 → vp_in (x3 + nI j) L) (I : lw_I g s VB o q (k + 1) rs h H locs cells slots) (hl : mz_L ls 4 [(0, false, va_rf (some b)), (1, false, va_rf (some o)), (2, false, va_rf (some q)), (3, false, .int x3)]) (cont : ∀ rs' h' H' locs' cells' slots', lw_I g s VB o q k rs' h' H' locs' cells' slots' → W p l e room_1 s m #[Value.ref b] below meth c H' locs' cells' slots' Q (F0 m 1899 ls [])) : W p l e room_1 s m #[Value.ref b] below meth c H locs cells slots Q (F0 m 848 ls []) := by
  have hbA : ¬ (fun q : Nat => s.heap.size ≤ q) b := Nat.not_le.mpr hbl
  obtain ⟨r, h', kk, n, rs', e1, e2, I', z1, z2, z3, z4⟩ := k_inner (q := q) I.1 (xs (x3 + 1).toNatClampNeg) (xs (x3 + 2).toNatClampNeg) (xs (x3 + 3).toNatClampNeg) (xs (x3 + 4).toNatClampNeg)
  refine mz_aload_n X dL_law_848 rfl (mz_at hl 1 rfl) ?_
  refine mz_aload_n X dL_law_849 rfl (mz_at hl 0 rfl) ?_
  refine lv_iload_n X.1 X.2.1 dL_law_850 rfl (mz_at hl 3 rfl) ?_
  refine lv_iconst (v := 1) X.1 X.2.1 dL_law_851 (by decide) ?_
  refine lv_iadd X.1 X.2.1 dL_law_852 ?_
  refine va_sld X.1 X.2.1 hX hbl hbA I.2.1.2.2.2 (hin 1 (by decide)) dL_law_853 ?_
  refine mz_aload_n X dL_law_854 rfl (mz_at hl 0 rfl) ?_
  refine lv_iload_n X.1 X.2.1 dL_law_855 rfl (mz_at hl 3 rfl) ?_
  refine lv_iconst (v := 2) X.1 X.2.1 dL_law_856 (by decide) ?_
  refine lv_iadd X.1 X.2.1 dL_law_857 ?_
  refine va_sld X.1 X.2.1 hX hbl hbA I.2.1.2.2.2 (hin 2 (by decide)) dL_law_858 ?_
  refine mz_aload_n X dL_law_859 rfl (mz_at hl 0 rfl) ?_
  refine lv_iload_n X.1 X.2.1 dL_law_860 rfl (mz_at hl 3 rfl) ?_
  refine lv_iconst (v := 3) X.1 X.2.1 dL_law_861 (by decide) ?_
  refine lv_iadd X.1 X.2.1 dL_law_862 ?_
  refine va_sld X.1 X.2.1 hX hbl hbA I.2.1.2.2.2 (hin 3 (by decide)) dL_law_863 ?_
  refine mz_aload_n X dL_law_864 rfl (mz_at hl 0 rfl) ?_
  refine lv_iload_n X.1 X.2.1 dL_law_865 rfl (mz_at hl 3 rfl) ?_
  refine lv_iconst (v := 4) X.1 X.2.1 dL_law_866 (by decide) ?_
  refine lv_iadd X.1 X.2.1 dL_law_867 ?_
  refine va_sld X.1 X.2.1 hX hbl hbA I.2.1.2.2.2 (hin 4 (by decide)) dL_law_868 ?_
  refine lw_x X I.2.1 I.1.is hl.1.1 [.int (xs (x3 + 1).toNatClampNeg), .int (xs (x3 + 2).toNatClampNeg), .int (xs (x3 + 3).toNatClampNeg), .int (xs (x3 + 4).toNatClampNeg)] (ct_X11_inner l g h (some o) (xs (x3 + 1).toNatClampNeg) (xs (x3 + 2).toNatClampNeg) (xs (x3 + 3).toNatClampNeg) (xs (x3 + 4).toNatClampNeg) r h' kk n e1) lb_89 li_X11_inner rfl ⟨Nat.le_of_ble_eq_true rfl, Nat.le_of_ble_eq_true rfl⟩ (lw_bud I I' z2 z3 z4) dL_law_869 rfl (fun H1 locs1 J => ?_)
  refine mz_aload_n X dL_law_872 rfl (mz_at hl 2 rfl) ?_
  refine mz_aload_n X dL_law_873 rfl (mz_at hl 0 rfl) ?_
  refine lv_iload_n X.1 X.2.1 dL_law_874 rfl (mz_at hl 3 rfl) ?_
  refine lv_iconst (v := 1) X.1 X.2.1 dL_law_875 (by decide) ?_
  refine lv_iadd X.1 X.2.1 dL_law_876 ?_
  refine va_sld X.1 X.2.1 hX hbl hbA J.2.2.2 (hin 1 (by decide)) dL_law_877 ?_
  refine mz_aload_n X dL_law_878 rfl (mz_at hl 0 rfl) ?_
  refine lv_iload_n X.1 X.2.1 dL_law_879 rfl (mz_at hl 3 rfl) ?_
  refine lv_iconst (v := 2) X.1 X.2.1 dL_law_880 (by decide) ?_
  refine lv_iadd X.1 X.2.1 dL_law_881 ?_
  refine va_sld X.1 X.2.1 hX hbl hbA J.2.2.2 (hin 2 (by decide)) dL_law_882 ?_
  refine mz_aload_n X dL_law_883 rfl (mz_at hl 0 rfl) ?_
  refine lv_iload_n X.1 X.2.1 dL_law_884 rfl (mz_at hl 3 rfl) ?_
  refine lv_iconst (v := 3) X.1 X.2.1 dL_law_885 (by decide) ?_
  refine lv_iadd X.1 X.2.1 dL_law_886 ?_
  refine va_sld X.1 X.2.1 hX hbl hbA J.2.2.2 (hin 3 (by decide)) dL_law_887 ?_
  refine mz_aload_n X dL_law_888 rfl (mz_at hl 0 rfl) ?_
  refine lv_iload_n X.1 X.2.1 dL_law_889 rfl (mz_at hl 3 rfl) ?_
  refine lv_iconst (v := 4) X.1 X.2.1 dL_law_890 (by decide) ?_
  refine lv_iadd X.1 X.2.1 dL_law_891 ?_
  refine va_sld X.1 X.2.1 hX hbl hbA J.2.2.2 (hin 4 (by decide)) dL_law_892 ?_
  refine lw_m X J hl.1.1 [.int (xs (x3 + 1).toNatClampNeg), .int (xs (x3 + 2).toNatClampNeg), .int (xs (x3 + 3).toNatClampNeg), .int (xs (x3 + 4).toNatClampNeg)] (ct_X12_inner l g (mz_RH q h'.2 rs) (some q) (xs (x3 + 1).toNatClampNeg) (xs (x3 + 2).toNatClampNeg) (xs (x3 + 3).toNatClampNeg) (xs (x3 + 4).toNatClampNeg) r (mz_RH q h'.2 rs') 0 0 e2) lb_93 li_X12_inner rfl ⟨Nat.le_of_ble_eq_true rfl, Nat.le_of_ble_eq_true rfl⟩ (lw_bud I I' z2 z3 z4) dL_law_893 rfl (fun H2 locs2 J2 => ?_)
  refine lv_icmp_eq (tgt := 1899) X.1 X.2.1 dL_law_896 (by decide) (fun _ => ?_) (fun z => absurd rfl z)
  exact cont _ _ _ _ _ _ (lw_next I I' z2 z3 z4 J2)
end
theorem dL_law_901 : decode cL_law 901 = .ok (.aload_n 1, 1) := by decide +kernel
theorem dL_law_902 : decode cL_law 902 = .ok (.aload_n 0, 1) := by decide +kernel
theorem dL_law_903 : decode cL_law 903 = .ok (.iload_n 3, 1) := by decide +kernel
theorem dL_law_904 : decode cL_law 904 = .ok (.iconst 1, 1) := by decide +kernel
theorem dL_law_905 : decode cL_law 905 = .ok (.iadd, 1) := by decide +kernel
theorem dL_law_906 : decode cL_law 906 = .ok (.iaload, 1) := by decide +kernel
theorem dL_law_907 : decode cL_law 907 = .ok (.aload_n 0, 1) := by decide +kernel
theorem dL_law_908 : decode cL_law 908 = .ok (.iload_n 3, 1) := by decide +kernel
theorem dL_law_909 : decode cL_law 909 = .ok (.iconst 2, 1) := by decide +kernel
theorem dL_law_910 : decode cL_law 910 = .ok (.iadd, 1) := by decide +kernel
theorem dL_law_911 : decode cL_law 911 = .ok (.iaload, 1) := by decide +kernel
theorem dL_law_912 : decode cL_law 912 = .ok (.invokevirtual 94, 3) := by decide +kernel
theorem dL_law_915 : decode cL_law 915 = .ok (.aload_n 2, 1) := by decide +kernel
theorem dL_law_916 : decode cL_law 916 = .ok (.aload_n 0, 1) := by decide +kernel
theorem dL_law_917 : decode cL_law 917 = .ok (.iload_n 3, 1) := by decide +kernel
theorem dL_law_918 : decode cL_law 918 = .ok (.iconst 1, 1) := by decide +kernel
theorem dL_law_919 : decode cL_law 919 = .ok (.iadd, 1) := by decide +kernel
theorem dL_law_920 : decode cL_law 920 = .ok (.iaload, 1) := by decide +kernel
theorem dL_law_921 : decode cL_law 921 = .ok (.aload_n 0, 1) := by decide +kernel
theorem dL_law_922 : decode cL_law 922 = .ok (.iload_n 3, 1) := by decide +kernel
theorem dL_law_923 : decode cL_law 923 = .ok (.iconst 2, 1) := by decide +kernel
theorem dL_law_924 : decode cL_law 924 = .ok (.iadd, 1) := by decide +kernel
theorem dL_law_925 : decode cL_law 925 = .ok (.iaload, 1) := by decide +kernel
theorem dL_law_926 : decode cL_law 926 = .ok (.invokevirtual 97, 3) := by decide +kernel
theorem dL_law_929 : decode cL_law 929 = .ok (.if_icmp .eq 970, 3) := by decide +kernel
theorem lb_94 : mz_MB RL 94 yX11_drop cX11_drop 5 (some .int) 2 := ⟨mz_tb 617 (by decide +kernel) rfl, mz_tb 40 (by decide +kernel) rfl, mz_tb 620 (by decide +kernel) rfl, by decide, by decide, by decide +kernel⟩
theorem li_X11_drop : Cond.instanceMethod yX11_drop ∈ mz_tbl ∧ Cond.selects RX11 yX11_drop yX11_drop ∈ mz_tbl := ⟨mz_tb 618 (by decide +kernel) rfl, mz_tb 619 (by decide +kernel) rfl⟩
theorem lb_97 : mz_MB RL 97 yX12_drop cX12_drop 5 (some .int) 2 := ⟨mz_tb 1273 (by decide +kernel) rfl, mz_tb 45 (by decide +kernel) rfl, mz_tb 1276 (by decide +kernel) rfl, by decide, by decide, by decide +kernel⟩
theorem li_X12_drop : Cond.instanceMethod yX12_drop ∈ mz_tbl ∧ Cond.selects RX12 yX12_drop yX12_drop ∈ mz_tbl := ⟨mz_tb 1274 (by decide +kernel) rfl, mz_tb 1275 (by decide +kernel) rfl⟩
section
variable {p : Program} {l : Launch} {e : Env} {s : State} {m : MethodId} {below : List Frame} {meth : Method} {c : Code} {H : Heap} {locs : List Loc} {cells slots : Nat} {Q : State → Prop} {ls : Array Slot} {g : mz_G} {b L : Nat} {xs : Nat → Int32} {VB o q k : Nat} {rs : mz_RS} {h : mz_H} {x3 : Int32}
set_option maxHeartbeats 4000000 in
set_option maxRecDepth 100000 in
theorem lc_19 (X : mz_X p g RL cL_law 4 (fun q : Nat => s.heap.size ≤ q) s m #[Value.ref b] c) (hX : va_X b L xs s s.heap) (hbl : b < s.heap.size) (hin : ∀ j : Nat, j < 8 → vp_in (x3 + nI j) L) (I : lw_I g s VB o q (k + 1) rs h H locs cells slots) (hl : mz_L ls 4 [(0, false, va_rf (some b)), (1, false, va_rf (some o)), (2, false, va_rf (some q)), (3, false, .int x3)]) (cont : ∀ rs' h' H' locs' cells' slots', lw_I g s VB o q k rs' h' H' locs' cells' slots' → W p l e room_1 s m #[Value.ref b] below meth c H' locs' cells' slots' Q (F0 m 1899 ls [])) : W p l e room_1 s m #[Value.ref b] below meth c H locs cells slots Q (F0 m 901 ls []) := by
  have hbA : ¬ (fun q : Nat => s.heap.size ≤ q) b := Nat.not_le.mpr hbl
  obtain ⟨r, h', kk, n, rs', e1, e2, I', z1, z2, z3, z4⟩ := k_drop (q := q) I.1 (xs (x3 + 1).toNatClampNeg) (xs (x3 + 2).toNatClampNeg)
  refine mz_aload_n X dL_law_901 rfl (mz_at hl 1 rfl) ?_
  refine mz_aload_n X dL_law_902 rfl (mz_at hl 0 rfl) ?_
  refine lv_iload_n X.1 X.2.1 dL_law_903 rfl (mz_at hl 3 rfl) ?_
  refine lv_iconst (v := 1) X.1 X.2.1 dL_law_904 (by decide) ?_
  refine lv_iadd X.1 X.2.1 dL_law_905 ?_
  refine va_sld X.1 X.2.1 hX hbl hbA I.2.1.2.2.2 (hin 1 (by decide)) dL_law_906 ?_
  refine mz_aload_n X dL_law_907 rfl (mz_at hl 0 rfl) ?_
  refine lv_iload_n X.1 X.2.1 dL_law_908 rfl (mz_at hl 3 rfl) ?_
  refine lv_iconst (v := 2) X.1 X.2.1 dL_law_909 (by decide) ?_
  refine lv_iadd X.1 X.2.1 dL_law_910 ?_
  refine va_sld X.1 X.2.1 hX hbl hbA I.2.1.2.2.2 (hin 2 (by decide)) dL_law_911 ?_
  refine lw_x X I.2.1 I.1.is hl.1.1 [.int (xs (x3 + 1).toNatClampNeg), .int (xs (x3 + 2).toNatClampNeg)] (ct_X11_drop l g h (some o) (xs (x3 + 1).toNatClampNeg) (xs (x3 + 2).toNatClampNeg) r h' kk n e1) lb_94 li_X11_drop rfl ⟨Nat.le_of_ble_eq_true rfl, Nat.le_of_ble_eq_true rfl⟩ (lw_bud I I' z2 z3 z4) dL_law_912 rfl (fun H1 locs1 J => ?_)
  refine mz_aload_n X dL_law_915 rfl (mz_at hl 2 rfl) ?_
  refine mz_aload_n X dL_law_916 rfl (mz_at hl 0 rfl) ?_
  refine lv_iload_n X.1 X.2.1 dL_law_917 rfl (mz_at hl 3 rfl) ?_
  refine lv_iconst (v := 1) X.1 X.2.1 dL_law_918 (by decide) ?_
  refine lv_iadd X.1 X.2.1 dL_law_919 ?_
  refine va_sld X.1 X.2.1 hX hbl hbA J.2.2.2 (hin 1 (by decide)) dL_law_920 ?_
  refine mz_aload_n X dL_law_921 rfl (mz_at hl 0 rfl) ?_
  refine lv_iload_n X.1 X.2.1 dL_law_922 rfl (mz_at hl 3 rfl) ?_
  refine lv_iconst (v := 2) X.1 X.2.1 dL_law_923 (by decide) ?_
  refine lv_iadd X.1 X.2.1 dL_law_924 ?_
  refine va_sld X.1 X.2.1 hX hbl hbA J.2.2.2 (hin 2 (by decide)) dL_law_925 ?_
  refine lw_m X J hl.1.1 [.int (xs (x3 + 1).toNatClampNeg), .int (xs (x3 + 2).toNatClampNeg)] (ct_X12_drop l g (mz_RH q h'.2 rs) (some q) (xs (x3 + 1).toNatClampNeg) (xs (x3 + 2).toNatClampNeg) r (mz_RH q h'.2 rs') 0 0 e2) lb_97 li_X12_drop rfl ⟨Nat.le_of_ble_eq_true rfl, Nat.le_of_ble_eq_true rfl⟩ (lw_bud I I' z2 z3 z4) dL_law_926 rfl (fun H2 locs2 J2 => ?_)
  refine lv_icmp_eq (tgt := 1899) X.1 X.2.1 dL_law_929 (by decide) (fun _ => ?_) (fun z => absurd rfl z)
  exact cont _ _ _ _ _ _ (lw_next I I' z2 z3 z4 J2)
end
theorem dL_law_934 : decode cL_law 934 = .ok (.aload_n 1, 1) := by decide +kernel
theorem dL_law_935 : decode cL_law 935 = .ok (.aload_n 0, 1) := by decide +kernel
theorem dL_law_936 : decode cL_law 936 = .ok (.iload_n 3, 1) := by decide +kernel
theorem dL_law_937 : decode cL_law 937 = .ok (.iconst 1, 1) := by decide +kernel
theorem dL_law_938 : decode cL_law 938 = .ok (.iadd, 1) := by decide +kernel
theorem dL_law_939 : decode cL_law 939 = .ok (.iaload, 1) := by decide +kernel
theorem dL_law_940 : decode cL_law 940 = .ok (.aload_n 0, 1) := by decide +kernel
theorem dL_law_941 : decode cL_law 941 = .ok (.iload_n 3, 1) := by decide +kernel
theorem dL_law_942 : decode cL_law 942 = .ok (.iconst 2, 1) := by decide +kernel
theorem dL_law_943 : decode cL_law 943 = .ok (.iadd, 1) := by decide +kernel
theorem dL_law_944 : decode cL_law 944 = .ok (.iaload, 1) := by decide +kernel
theorem dL_law_945 : decode cL_law 945 = .ok (.aload_n 0, 1) := by decide +kernel
theorem dL_law_946 : decode cL_law 946 = .ok (.iload_n 3, 1) := by decide +kernel
theorem dL_law_947 : decode cL_law 947 = .ok (.iconst 3, 1) := by decide +kernel
theorem dL_law_948 : decode cL_law 948 = .ok (.iadd, 1) := by decide +kernel
theorem dL_law_949 : decode cL_law 949 = .ok (.iaload, 1) := by decide +kernel
theorem dL_law_950 : decode cL_law 950 = .ok (.invokevirtual 98, 3) := by decide +kernel
theorem dL_law_953 : decode cL_law 953 = .ok (.aload_n 2, 1) := by decide +kernel
theorem dL_law_954 : decode cL_law 954 = .ok (.aload_n 0, 1) := by decide +kernel
theorem dL_law_955 : decode cL_law 955 = .ok (.iload_n 3, 1) := by decide +kernel
theorem dL_law_956 : decode cL_law 956 = .ok (.iconst 1, 1) := by decide +kernel
theorem dL_law_957 : decode cL_law 957 = .ok (.iadd, 1) := by decide +kernel
theorem dL_law_958 : decode cL_law 958 = .ok (.iaload, 1) := by decide +kernel
theorem dL_law_959 : decode cL_law 959 = .ok (.aload_n 0, 1) := by decide +kernel
theorem dL_law_960 : decode cL_law 960 = .ok (.iload_n 3, 1) := by decide +kernel
theorem dL_law_961 : decode cL_law 961 = .ok (.iconst 2, 1) := by decide +kernel
theorem dL_law_962 : decode cL_law 962 = .ok (.iadd, 1) := by decide +kernel
theorem dL_law_963 : decode cL_law 963 = .ok (.iaload, 1) := by decide +kernel
theorem dL_law_964 : decode cL_law 964 = .ok (.aload_n 0, 1) := by decide +kernel
theorem dL_law_965 : decode cL_law 965 = .ok (.iload_n 3, 1) := by decide +kernel
theorem dL_law_966 : decode cL_law 966 = .ok (.iconst 3, 1) := by decide +kernel
theorem dL_law_967 : decode cL_law 967 = .ok (.iadd, 1) := by decide +kernel
theorem dL_law_968 : decode cL_law 968 = .ok (.iaload, 1) := by decide +kernel
theorem dL_law_969 : decode cL_law 969 = .ok (.invokevirtual 101, 3) := by decide +kernel
theorem dL_law_972 : decode cL_law 972 = .ok (.if_icmp .eq 927, 3) := by decide +kernel
theorem lb_98 : mz_MB RL 98 yX11_size cX11_size 6 (some .int) 3 := ⟨mz_tb 629 (by decide +kernel) rfl, mz_tb 40 (by decide +kernel) rfl, mz_tb 632 (by decide +kernel) rfl, by decide, by decide, by decide +kernel⟩
theorem li_X11_size : Cond.instanceMethod yX11_size ∈ mz_tbl ∧ Cond.selects RX11 yX11_size yX11_size ∈ mz_tbl := ⟨mz_tb 630 (by decide +kernel) rfl, mz_tb 631 (by decide +kernel) rfl⟩
theorem lb_101 : mz_MB RL 101 yX12_size cX12_size 5 (some .int) 3 := ⟨mz_tb 1277 (by decide +kernel) rfl, mz_tb 45 (by decide +kernel) rfl, mz_tb 1280 (by decide +kernel) rfl, by decide, by decide, by decide +kernel⟩
theorem li_X12_size : Cond.instanceMethod yX12_size ∈ mz_tbl ∧ Cond.selects RX12 yX12_size yX12_size ∈ mz_tbl := ⟨mz_tb 1278 (by decide +kernel) rfl, mz_tb 1279 (by decide +kernel) rfl⟩
section
variable {p : Program} {l : Launch} {e : Env} {s : State} {m : MethodId} {below : List Frame} {meth : Method} {c : Code} {H : Heap} {locs : List Loc} {cells slots : Nat} {Q : State → Prop} {ls : Array Slot} {g : mz_G} {b L : Nat} {xs : Nat → Int32} {VB o q k : Nat} {rs : mz_RS} {h : mz_H} {x3 : Int32}
set_option maxHeartbeats 4000000 in
set_option maxRecDepth 100000 in
theorem lc_20 (X : mz_X p g RL cL_law 4 (fun q : Nat => s.heap.size ≤ q) s m #[Value.ref b] c) (hX : va_X b L xs s s.heap) (hbl : b < s.heap.size) (hin : ∀ j : Nat, j < 8 → vp_in (x3 + nI j) L) (I : lw_I g s VB o q (k + 1) rs h H locs cells slots) (hl : mz_L ls 4 [(0, false, va_rf (some b)), (1, false, va_rf (some o)), (2, false, va_rf (some q)), (3, false, .int x3)]) (cont : ∀ rs' h' H' locs' cells' slots', lw_I g s VB o q k rs' h' H' locs' cells' slots' → W p l e room_1 s m #[Value.ref b] below meth c H' locs' cells' slots' Q (F0 m 1899 ls [])) : W p l e room_1 s m #[Value.ref b] below meth c H locs cells slots Q (F0 m 934 ls []) := by
  have hbA : ¬ (fun q : Nat => s.heap.size ≤ q) b := Nat.not_le.mpr hbl
  obtain ⟨r, h', kk, n, rs', e1, e2, I', z1, z2, z3, z4⟩ := k_size (q := q) I.1 (xs (x3 + 1).toNatClampNeg) (xs (x3 + 2).toNatClampNeg) (xs (x3 + 3).toNatClampNeg)
  refine mz_aload_n X dL_law_934 rfl (mz_at hl 1 rfl) ?_
  refine mz_aload_n X dL_law_935 rfl (mz_at hl 0 rfl) ?_
  refine lv_iload_n X.1 X.2.1 dL_law_936 rfl (mz_at hl 3 rfl) ?_
  refine lv_iconst (v := 1) X.1 X.2.1 dL_law_937 (by decide) ?_
  refine lv_iadd X.1 X.2.1 dL_law_938 ?_
  refine va_sld X.1 X.2.1 hX hbl hbA I.2.1.2.2.2 (hin 1 (by decide)) dL_law_939 ?_
  refine mz_aload_n X dL_law_940 rfl (mz_at hl 0 rfl) ?_
  refine lv_iload_n X.1 X.2.1 dL_law_941 rfl (mz_at hl 3 rfl) ?_
  refine lv_iconst (v := 2) X.1 X.2.1 dL_law_942 (by decide) ?_
  refine lv_iadd X.1 X.2.1 dL_law_943 ?_
  refine va_sld X.1 X.2.1 hX hbl hbA I.2.1.2.2.2 (hin 2 (by decide)) dL_law_944 ?_
  refine mz_aload_n X dL_law_945 rfl (mz_at hl 0 rfl) ?_
  refine lv_iload_n X.1 X.2.1 dL_law_946 rfl (mz_at hl 3 rfl) ?_
  refine lv_iconst (v := 3) X.1 X.2.1 dL_law_947 (by decide) ?_
  refine lv_iadd X.1 X.2.1 dL_law_948 ?_
  refine va_sld X.1 X.2.1 hX hbl hbA I.2.1.2.2.2 (hin 3 (by decide)) dL_law_949 ?_
  refine lw_x X I.2.1 I.1.is hl.1.1 [.int (xs (x3 + 1).toNatClampNeg), .int (xs (x3 + 2).toNatClampNeg), .int (xs (x3 + 3).toNatClampNeg)] (ct_X11_size l g h (some o) (xs (x3 + 1).toNatClampNeg) (xs (x3 + 2).toNatClampNeg) (xs (x3 + 3).toNatClampNeg) r h' kk n e1) lb_98 li_X11_size rfl ⟨Nat.le_of_ble_eq_true rfl, Nat.le_of_ble_eq_true rfl⟩ (lw_bud I I' z2 z3 z4) dL_law_950 rfl (fun H1 locs1 J => ?_)
  refine mz_aload_n X dL_law_953 rfl (mz_at hl 2 rfl) ?_
  refine mz_aload_n X dL_law_954 rfl (mz_at hl 0 rfl) ?_
  refine lv_iload_n X.1 X.2.1 dL_law_955 rfl (mz_at hl 3 rfl) ?_
  refine lv_iconst (v := 1) X.1 X.2.1 dL_law_956 (by decide) ?_
  refine lv_iadd X.1 X.2.1 dL_law_957 ?_
  refine va_sld X.1 X.2.1 hX hbl hbA J.2.2.2 (hin 1 (by decide)) dL_law_958 ?_
  refine mz_aload_n X dL_law_959 rfl (mz_at hl 0 rfl) ?_
  refine lv_iload_n X.1 X.2.1 dL_law_960 rfl (mz_at hl 3 rfl) ?_
  refine lv_iconst (v := 2) X.1 X.2.1 dL_law_961 (by decide) ?_
  refine lv_iadd X.1 X.2.1 dL_law_962 ?_
  refine va_sld X.1 X.2.1 hX hbl hbA J.2.2.2 (hin 2 (by decide)) dL_law_963 ?_
  refine mz_aload_n X dL_law_964 rfl (mz_at hl 0 rfl) ?_
  refine lv_iload_n X.1 X.2.1 dL_law_965 rfl (mz_at hl 3 rfl) ?_
  refine lv_iconst (v := 3) X.1 X.2.1 dL_law_966 (by decide) ?_
  refine lv_iadd X.1 X.2.1 dL_law_967 ?_
  refine va_sld X.1 X.2.1 hX hbl hbA J.2.2.2 (hin 3 (by decide)) dL_law_968 ?_
  refine lw_m X J hl.1.1 [.int (xs (x3 + 1).toNatClampNeg), .int (xs (x3 + 2).toNatClampNeg), .int (xs (x3 + 3).toNatClampNeg)] (ct_X12_size l g (mz_RH q h'.2 rs) (some q) (xs (x3 + 1).toNatClampNeg) (xs (x3 + 2).toNatClampNeg) (xs (x3 + 3).toNatClampNeg) r (mz_RH q h'.2 rs') 0 0 e2) lb_101 li_X12_size rfl ⟨Nat.le_of_ble_eq_true rfl, Nat.le_of_ble_eq_true rfl⟩ (lw_bud I I' z2 z3 z4) dL_law_969 rfl (fun H2 locs2 J2 => ?_)
  refine lv_icmp_eq (tgt := 1899) X.1 X.2.1 dL_law_972 (by decide) (fun _ => ?_) (fun z => absurd rfl z)
  exact cont _ _ _ _ _ _ (lw_next I I' z2 z3 z4 J2)
end
theorem dL_law_977 : decode cL_law 977 = .ok (.aload_n 1, 1) := by decide +kernel
theorem dL_law_978 : decode cL_law 978 = .ok (.aload_n 0, 1) := by decide +kernel
theorem dL_law_979 : decode cL_law 979 = .ok (.iload_n 3, 1) := by decide +kernel
theorem dL_law_980 : decode cL_law 980 = .ok (.iconst 1, 1) := by decide +kernel
theorem dL_law_981 : decode cL_law 981 = .ok (.iadd, 1) := by decide +kernel
theorem dL_law_982 : decode cL_law 982 = .ok (.iaload, 1) := by decide +kernel
theorem dL_law_983 : decode cL_law 983 = .ok (.aload_n 0, 1) := by decide +kernel
theorem dL_law_984 : decode cL_law 984 = .ok (.iload_n 3, 1) := by decide +kernel
theorem dL_law_985 : decode cL_law 985 = .ok (.iconst 2, 1) := by decide +kernel
theorem dL_law_986 : decode cL_law 986 = .ok (.iadd, 1) := by decide +kernel
theorem dL_law_987 : decode cL_law 987 = .ok (.iaload, 1) := by decide +kernel
theorem dL_law_988 : decode cL_law 988 = .ok (.aload_n 0, 1) := by decide +kernel
theorem dL_law_989 : decode cL_law 989 = .ok (.iload_n 3, 1) := by decide +kernel
theorem dL_law_990 : decode cL_law 990 = .ok (.iconst 3, 1) := by decide +kernel
theorem dL_law_991 : decode cL_law 991 = .ok (.iadd, 1) := by decide +kernel
theorem dL_law_992 : decode cL_law 992 = .ok (.iaload, 1) := by decide +kernel
theorem dL_law_993 : decode cL_law 993 = .ok (.aload_n 0, 1) := by decide +kernel
theorem dL_law_994 : decode cL_law 994 = .ok (.iload_n 3, 1) := by decide +kernel
theorem dL_law_995 : decode cL_law 995 = .ok (.iconst 4, 1) := by decide +kernel
theorem dL_law_996 : decode cL_law 996 = .ok (.iadd, 1) := by decide +kernel
theorem dL_law_997 : decode cL_law 997 = .ok (.iaload, 1) := by decide +kernel
theorem dL_law_998 : decode cL_law 998 = .ok (.invokevirtual 102, 3) := by decide +kernel
theorem dL_law_1001 : decode cL_law 1001 = .ok (.aload_n 2, 1) := by decide +kernel
theorem dL_law_1002 : decode cL_law 1002 = .ok (.aload_n 0, 1) := by decide +kernel
theorem dL_law_1003 : decode cL_law 1003 = .ok (.iload_n 3, 1) := by decide +kernel
theorem dL_law_1004 : decode cL_law 1004 = .ok (.iconst 1, 1) := by decide +kernel
theorem dL_law_1005 : decode cL_law 1005 = .ok (.iadd, 1) := by decide +kernel
theorem dL_law_1006 : decode cL_law 1006 = .ok (.iaload, 1) := by decide +kernel
theorem dL_law_1007 : decode cL_law 1007 = .ok (.aload_n 0, 1) := by decide +kernel
theorem dL_law_1008 : decode cL_law 1008 = .ok (.iload_n 3, 1) := by decide +kernel
theorem dL_law_1009 : decode cL_law 1009 = .ok (.iconst 2, 1) := by decide +kernel
theorem dL_law_1010 : decode cL_law 1010 = .ok (.iadd, 1) := by decide +kernel
theorem dL_law_1011 : decode cL_law 1011 = .ok (.iaload, 1) := by decide +kernel
theorem dL_law_1012 : decode cL_law 1012 = .ok (.aload_n 0, 1) := by decide +kernel
theorem dL_law_1013 : decode cL_law 1013 = .ok (.iload_n 3, 1) := by decide +kernel
theorem dL_law_1014 : decode cL_law 1014 = .ok (.iconst 3, 1) := by decide +kernel
theorem dL_law_1015 : decode cL_law 1015 = .ok (.iadd, 1) := by decide +kernel
theorem dL_law_1016 : decode cL_law 1016 = .ok (.iaload, 1) := by decide +kernel
theorem dL_law_1017 : decode cL_law 1017 = .ok (.aload_n 0, 1) := by decide +kernel
theorem dL_law_1018 : decode cL_law 1018 = .ok (.iload_n 3, 1) := by decide +kernel
theorem dL_law_1019 : decode cL_law 1019 = .ok (.iconst 4, 1) := by decide +kernel
theorem dL_law_1020 : decode cL_law 1020 = .ok (.iadd, 1) := by decide +kernel
theorem dL_law_1021 : decode cL_law 1021 = .ok (.iaload, 1) := by decide +kernel
theorem dL_law_1022 : decode cL_law 1022 = .ok (.invokevirtual 106, 3) := by decide +kernel
theorem dL_law_1025 : decode cL_law 1025 = .ok (.lcmp, 1) := by decide +kernel
theorem dL_law_1026 : decode cL_law 1026 = .ok (.ifCond .eq 873, 3) := by decide +kernel
theorem lb_102 : mz_MB RL 102 yX11_get cX11_get 7 (some .long) 4 := ⟨mz_tb 641 (by decide +kernel) rfl, mz_tb 40 (by decide +kernel) rfl, mz_tb 644 (by decide +kernel) rfl, by decide, by decide, by decide +kernel⟩
theorem li_X11_get : Cond.instanceMethod yX11_get ∈ mz_tbl ∧ Cond.selects RX11 yX11_get yX11_get ∈ mz_tbl := ⟨mz_tb 642 (by decide +kernel) rfl, mz_tb 643 (by decide +kernel) rfl⟩
theorem lb_106 : mz_MB RL 106 yX12_get cX12_get 6 (some .long) 4 := ⟨mz_tb 1281 (by decide +kernel) rfl, mz_tb 45 (by decide +kernel) rfl, mz_tb 1284 (by decide +kernel) rfl, by decide, by decide, by decide +kernel⟩
theorem li_X12_get : Cond.instanceMethod yX12_get ∈ mz_tbl ∧ Cond.selects RX12 yX12_get yX12_get ∈ mz_tbl := ⟨mz_tb 1282 (by decide +kernel) rfl, mz_tb 1283 (by decide +kernel) rfl⟩
section
variable {p : Program} {l : Launch} {e : Env} {s : State} {m : MethodId} {below : List Frame} {meth : Method} {c : Code} {H : Heap} {locs : List Loc} {cells slots : Nat} {Q : State → Prop} {ls : Array Slot} {g : mz_G} {b L : Nat} {xs : Nat → Int32} {VB o q k : Nat} {rs : mz_RS} {h : mz_H} {x3 : Int32}
set_option maxHeartbeats 4000000 in
set_option maxRecDepth 100000 in
theorem lc_21 (X : mz_X p g RL cL_law 4 (fun q : Nat => s.heap.size ≤ q) s m #[Value.ref b] c) (hX : va_X b L xs s s.heap) (hbl : b < s.heap.size) (hin : ∀ j : Nat, j < 8 → vp_in (x3 + nI j) L) (I : lw_I g s VB o q (k + 1) rs h H locs cells slots) (hl : mz_L ls 4 [(0, false, va_rf (some b)), (1, false, va_rf (some o)), (2, false, va_rf (some q)), (3, false, .int x3)]) (cont : ∀ rs' h' H' locs' cells' slots', lw_I g s VB o q k rs' h' H' locs' cells' slots' → W p l e room_1 s m #[Value.ref b] below meth c H' locs' cells' slots' Q (F0 m 1899 ls [])) : W p l e room_1 s m #[Value.ref b] below meth c H locs cells slots Q (F0 m 977 ls []) := by
  have hbA : ¬ (fun q : Nat => s.heap.size ≤ q) b := Nat.not_le.mpr hbl
  obtain ⟨r, h', kk, n, rs', e1, e2, I', z1, z2, z3, z4⟩ := k_get (q := q) I.1 (xs (x3 + 1).toNatClampNeg) (xs (x3 + 2).toNatClampNeg) (xs (x3 + 3).toNatClampNeg) (xs (x3 + 4).toNatClampNeg)
  refine mz_aload_n X dL_law_977 rfl (mz_at hl 1 rfl) ?_
  refine mz_aload_n X dL_law_978 rfl (mz_at hl 0 rfl) ?_
  refine lv_iload_n X.1 X.2.1 dL_law_979 rfl (mz_at hl 3 rfl) ?_
  refine lv_iconst (v := 1) X.1 X.2.1 dL_law_980 (by decide) ?_
  refine lv_iadd X.1 X.2.1 dL_law_981 ?_
  refine va_sld X.1 X.2.1 hX hbl hbA I.2.1.2.2.2 (hin 1 (by decide)) dL_law_982 ?_
  refine mz_aload_n X dL_law_983 rfl (mz_at hl 0 rfl) ?_
  refine lv_iload_n X.1 X.2.1 dL_law_984 rfl (mz_at hl 3 rfl) ?_
  refine lv_iconst (v := 2) X.1 X.2.1 dL_law_985 (by decide) ?_
  refine lv_iadd X.1 X.2.1 dL_law_986 ?_
  refine va_sld X.1 X.2.1 hX hbl hbA I.2.1.2.2.2 (hin 2 (by decide)) dL_law_987 ?_
  refine mz_aload_n X dL_law_988 rfl (mz_at hl 0 rfl) ?_
  refine lv_iload_n X.1 X.2.1 dL_law_989 rfl (mz_at hl 3 rfl) ?_
  refine lv_iconst (v := 3) X.1 X.2.1 dL_law_990 (by decide) ?_
  refine lv_iadd X.1 X.2.1 dL_law_991 ?_
  refine va_sld X.1 X.2.1 hX hbl hbA I.2.1.2.2.2 (hin 3 (by decide)) dL_law_992 ?_
  refine mz_aload_n X dL_law_993 rfl (mz_at hl 0 rfl) ?_
  refine lv_iload_n X.1 X.2.1 dL_law_994 rfl (mz_at hl 3 rfl) ?_
  refine lv_iconst (v := 4) X.1 X.2.1 dL_law_995 (by decide) ?_
  refine lv_iadd X.1 X.2.1 dL_law_996 ?_
  refine va_sld X.1 X.2.1 hX hbl hbA I.2.1.2.2.2 (hin 4 (by decide)) dL_law_997 ?_
  refine lw_x X I.2.1 I.1.is hl.1.1 [.int (xs (x3 + 1).toNatClampNeg), .int (xs (x3 + 2).toNatClampNeg), .int (xs (x3 + 3).toNatClampNeg), .int (xs (x3 + 4).toNatClampNeg)] (ct_X11_get l g h (some o) (xs (x3 + 1).toNatClampNeg) (xs (x3 + 2).toNatClampNeg) (xs (x3 + 3).toNatClampNeg) (xs (x3 + 4).toNatClampNeg) r h' kk n e1) lb_102 li_X11_get rfl ⟨Nat.le_of_ble_eq_true rfl, Nat.le_of_ble_eq_true rfl⟩ (lw_bud I I' z2 z3 z4) dL_law_998 rfl (fun H1 locs1 J => ?_)
  refine mz_aload_n X dL_law_1001 rfl (mz_at hl 2 rfl) ?_
  refine mz_aload_n X dL_law_1002 rfl (mz_at hl 0 rfl) ?_
  refine lv_iload_n X.1 X.2.1 dL_law_1003 rfl (mz_at hl 3 rfl) ?_
  refine lv_iconst (v := 1) X.1 X.2.1 dL_law_1004 (by decide) ?_
  refine lv_iadd X.1 X.2.1 dL_law_1005 ?_
  refine va_sld X.1 X.2.1 hX hbl hbA J.2.2.2 (hin 1 (by decide)) dL_law_1006 ?_
  refine mz_aload_n X dL_law_1007 rfl (mz_at hl 0 rfl) ?_
  refine lv_iload_n X.1 X.2.1 dL_law_1008 rfl (mz_at hl 3 rfl) ?_
  refine lv_iconst (v := 2) X.1 X.2.1 dL_law_1009 (by decide) ?_
  refine lv_iadd X.1 X.2.1 dL_law_1010 ?_
  refine va_sld X.1 X.2.1 hX hbl hbA J.2.2.2 (hin 2 (by decide)) dL_law_1011 ?_
  refine mz_aload_n X dL_law_1012 rfl (mz_at hl 0 rfl) ?_
  refine lv_iload_n X.1 X.2.1 dL_law_1013 rfl (mz_at hl 3 rfl) ?_
  refine lv_iconst (v := 3) X.1 X.2.1 dL_law_1014 (by decide) ?_
  refine lv_iadd X.1 X.2.1 dL_law_1015 ?_
  refine va_sld X.1 X.2.1 hX hbl hbA J.2.2.2 (hin 3 (by decide)) dL_law_1016 ?_
  refine mz_aload_n X dL_law_1017 rfl (mz_at hl 0 rfl) ?_
  refine lv_iload_n X.1 X.2.1 dL_law_1018 rfl (mz_at hl 3 rfl) ?_
  refine lv_iconst (v := 4) X.1 X.2.1 dL_law_1019 (by decide) ?_
  refine lv_iadd X.1 X.2.1 dL_law_1020 ?_
  refine va_sld X.1 X.2.1 hX hbl hbA J.2.2.2 (hin 4 (by decide)) dL_law_1021 ?_
  refine lw_m X J hl.1.1 [.int (xs (x3 + 1).toNatClampNeg), .int (xs (x3 + 2).toNatClampNeg), .int (xs (x3 + 3).toNatClampNeg), .int (xs (x3 + 4).toNatClampNeg)] (ct_X12_get l g (mz_RH q h'.2 rs) (some q) (xs (x3 + 1).toNatClampNeg) (xs (x3 + 2).toNatClampNeg) (xs (x3 + 3).toNatClampNeg) (xs (x3 + 4).toNatClampNeg) r (mz_RH q h'.2 rs') 0 0 e2) lb_106 li_X12_get rfl ⟨Nat.le_of_ble_eq_true rfl, Nat.le_of_ble_eq_true rfl⟩ (lw_bud I I' z2 z3 z4) dL_law_1022 rfl (fun H2 locs2 J2 => ?_)
  refine W.lcmp X.1 X.2.1 dL_law_1025 ?_
  refine lv_if_eq (tgt := 1899) X.1 X.2.1 dL_law_1026 (by decide) (fun _ => ?_) (fun z => absurd ((lg_cmp_eq r r).mpr rfl) z)
  exact cont _ _ _ _ _ _ (lw_next I I' z2 z3 z4 J2)
end
theorem dL_law_1031 : decode cL_law 1031 = .ok (.aload_n 1, 1) := by decide +kernel
theorem dL_law_1032 : decode cL_law 1032 = .ok (.aload_n 0, 1) := by decide +kernel
theorem dL_law_1033 : decode cL_law 1033 = .ok (.iload_n 3, 1) := by decide +kernel
theorem dL_law_1034 : decode cL_law 1034 = .ok (.iconst 1, 1) := by decide +kernel
theorem dL_law_1035 : decode cL_law 1035 = .ok (.iadd, 1) := by decide +kernel
theorem dL_law_1036 : decode cL_law 1036 = .ok (.iaload, 1) := by decide +kernel
theorem dL_law_1037 : decode cL_law 1037 = .ok (.aload_n 0, 1) := by decide +kernel
theorem dL_law_1038 : decode cL_law 1038 = .ok (.iload_n 3, 1) := by decide +kernel
theorem dL_law_1039 : decode cL_law 1039 = .ok (.iconst 2, 1) := by decide +kernel
theorem dL_law_1040 : decode cL_law 1040 = .ok (.iadd, 1) := by decide +kernel
theorem dL_law_1041 : decode cL_law 1041 = .ok (.iaload, 1) := by decide +kernel
theorem dL_law_1042 : decode cL_law 1042 = .ok (.aload_n 0, 1) := by decide +kernel
theorem dL_law_1043 : decode cL_law 1043 = .ok (.iload_n 3, 1) := by decide +kernel
theorem dL_law_1044 : decode cL_law 1044 = .ok (.iconst 3, 1) := by decide +kernel
theorem dL_law_1045 : decode cL_law 1045 = .ok (.iadd, 1) := by decide +kernel
theorem dL_law_1046 : decode cL_law 1046 = .ok (.iaload, 1) := by decide +kernel
theorem dL_law_1047 : decode cL_law 1047 = .ok (.aload_n 0, 1) := by decide +kernel
theorem dL_law_1048 : decode cL_law 1048 = .ok (.iload_n 3, 1) := by decide +kernel
theorem dL_law_1049 : decode cL_law 1049 = .ok (.iconst 4, 1) := by decide +kernel
theorem dL_law_1050 : decode cL_law 1050 = .ok (.iadd, 1) := by decide +kernel
theorem dL_law_1051 : decode cL_law 1051 = .ok (.iaload, 1) := by decide +kernel
theorem dL_law_1052 : decode cL_law 1052 = .ok (.aload_n 0, 1) := by decide +kernel
theorem dL_law_1053 : decode cL_law 1053 = .ok (.iload_n 3, 1) := by decide +kernel
theorem dL_law_1054 : decode cL_law 1054 = .ok (.iconst 5, 1) := by decide +kernel
theorem dL_law_1055 : decode cL_law 1055 = .ok (.iadd, 1) := by decide +kernel
theorem dL_law_1056 : decode cL_law 1056 = .ok (.iaload, 1) := by decide +kernel
theorem dL_law_1057 : decode cL_law 1057 = .ok (.i2l, 1) := by decide +kernel
theorem dL_law_1058 : decode cL_law 1058 = .ok (.bipush 32, 2) := by decide +kernel
theorem dL_law_1060 : decode cL_law 1060 = .ok (.lshl, 1) := by decide +kernel
theorem dL_law_1061 : decode cL_law 1061 = .ok (.aload_n 0, 1) := by decide +kernel
theorem dL_law_1062 : decode cL_law 1062 = .ok (.iload_n 3, 1) := by decide +kernel
theorem dL_law_1063 : decode cL_law 1063 = .ok (.bipush 6, 2) := by decide +kernel
theorem dL_law_1065 : decode cL_law 1065 = .ok (.iadd, 1) := by decide +kernel
theorem dL_law_1066 : decode cL_law 1066 = .ok (.iaload, 1) := by decide +kernel
theorem dL_law_1067 : decode cL_law 1067 = .ok (.i2l, 1) := by decide +kernel
theorem dL_law_1068 : decode cL_law 1068 = .ok (.ldc2_w 107, 3) := by decide +kernel
theorem dL_law_1071 : decode cL_law 1071 = .ok (.land, 1) := by decide +kernel
theorem dL_law_1072 : decode cL_law 1072 = .ok (.lor, 1) := by decide +kernel
theorem dL_law_1073 : decode cL_law 1073 = .ok (.invokevirtual 109, 3) := by decide +kernel
theorem dL_law_1076 : decode cL_law 1076 = .ok (.aload_n 2, 1) := by decide +kernel
theorem dL_law_1077 : decode cL_law 1077 = .ok (.aload_n 0, 1) := by decide +kernel
theorem dL_law_1078 : decode cL_law 1078 = .ok (.iload_n 3, 1) := by decide +kernel
theorem dL_law_1079 : decode cL_law 1079 = .ok (.iconst 1, 1) := by decide +kernel
theorem dL_law_1080 : decode cL_law 1080 = .ok (.iadd, 1) := by decide +kernel
theorem dL_law_1081 : decode cL_law 1081 = .ok (.iaload, 1) := by decide +kernel
theorem dL_law_1082 : decode cL_law 1082 = .ok (.aload_n 0, 1) := by decide +kernel
theorem dL_law_1083 : decode cL_law 1083 = .ok (.iload_n 3, 1) := by decide +kernel
theorem dL_law_1084 : decode cL_law 1084 = .ok (.iconst 2, 1) := by decide +kernel
theorem dL_law_1085 : decode cL_law 1085 = .ok (.iadd, 1) := by decide +kernel
theorem dL_law_1086 : decode cL_law 1086 = .ok (.iaload, 1) := by decide +kernel
theorem dL_law_1087 : decode cL_law 1087 = .ok (.aload_n 0, 1) := by decide +kernel
theorem dL_law_1088 : decode cL_law 1088 = .ok (.iload_n 3, 1) := by decide +kernel
theorem dL_law_1089 : decode cL_law 1089 = .ok (.iconst 3, 1) := by decide +kernel
theorem dL_law_1090 : decode cL_law 1090 = .ok (.iadd, 1) := by decide +kernel
theorem dL_law_1091 : decode cL_law 1091 = .ok (.iaload, 1) := by decide +kernel
theorem dL_law_1092 : decode cL_law 1092 = .ok (.aload_n 0, 1) := by decide +kernel
theorem dL_law_1093 : decode cL_law 1093 = .ok (.iload_n 3, 1) := by decide +kernel
theorem dL_law_1094 : decode cL_law 1094 = .ok (.iconst 4, 1) := by decide +kernel
theorem dL_law_1095 : decode cL_law 1095 = .ok (.iadd, 1) := by decide +kernel
theorem dL_law_1096 : decode cL_law 1096 = .ok (.iaload, 1) := by decide +kernel
theorem dL_law_1097 : decode cL_law 1097 = .ok (.aload_n 0, 1) := by decide +kernel
theorem dL_law_1098 : decode cL_law 1098 = .ok (.iload_n 3, 1) := by decide +kernel
theorem dL_law_1099 : decode cL_law 1099 = .ok (.iconst 5, 1) := by decide +kernel
theorem dL_law_1100 : decode cL_law 1100 = .ok (.iadd, 1) := by decide +kernel
theorem dL_law_1101 : decode cL_law 1101 = .ok (.iaload, 1) := by decide +kernel
theorem dL_law_1102 : decode cL_law 1102 = .ok (.i2l, 1) := by decide +kernel
theorem dL_law_1103 : decode cL_law 1103 = .ok (.bipush 32, 2) := by decide +kernel
theorem dL_law_1105 : decode cL_law 1105 = .ok (.lshl, 1) := by decide +kernel
theorem dL_law_1106 : decode cL_law 1106 = .ok (.aload_n 0, 1) := by decide +kernel
theorem dL_law_1107 : decode cL_law 1107 = .ok (.iload_n 3, 1) := by decide +kernel
theorem dL_law_1108 : decode cL_law 1108 = .ok (.bipush 6, 2) := by decide +kernel
theorem dL_law_1110 : decode cL_law 1110 = .ok (.iadd, 1) := by decide +kernel
theorem dL_law_1111 : decode cL_law 1111 = .ok (.iaload, 1) := by decide +kernel
theorem dL_law_1112 : decode cL_law 1112 = .ok (.i2l, 1) := by decide +kernel
theorem dL_law_1113 : decode cL_law 1113 = .ok (.ldc2_w 107, 3) := by decide +kernel
theorem dL_law_1116 : decode cL_law 1116 = .ok (.land, 1) := by decide +kernel
theorem dL_law_1117 : decode cL_law 1117 = .ok (.lor, 1) := by decide +kernel
theorem dL_law_1118 : decode cL_law 1118 = .ok (.invokevirtual 113, 3) := by decide +kernel
theorem dL_law_1121 : decode cL_law 1121 = .ok (.if_icmp .eq 778, 3) := by decide +kernel
theorem lb_109 : mz_MB RL 109 yX11_set cX11_set 8 (some .int) 5 := ⟨mz_tb 664 (by decide +kernel) rfl, mz_tb 40 (by decide +kernel) rfl, mz_tb 667 (by decide +kernel) rfl, by decide, by decide, by decide +kernel⟩
theorem li_X11_set : Cond.instanceMethod yX11_set ∈ mz_tbl ∧ Cond.selects RX11 yX11_set yX11_set ∈ mz_tbl := ⟨mz_tb 665 (by decide +kernel) rfl, mz_tb 666 (by decide +kernel) rfl⟩
theorem lb_113 : mz_MB RL 113 yX12_set cX12_set 9 (some .int) 5 := ⟨mz_tb 1293 (by decide +kernel) rfl, mz_tb 45 (by decide +kernel) rfl, mz_tb 1296 (by decide +kernel) rfl, by decide, by decide, by decide +kernel⟩
theorem li_X12_set : Cond.instanceMethod yX12_set ∈ mz_tbl ∧ Cond.selects RX12 yX12_set yX12_set ∈ mz_tbl := ⟨mz_tb 1294 (by decide +kernel) rfl, mz_tb 1295 (by decide +kernel) rfl⟩
section
variable {p : Program} {l : Launch} {e : Env} {s : State} {m : MethodId} {below : List Frame} {meth : Method} {c : Code} {H : Heap} {locs : List Loc} {cells slots : Nat} {Q : State → Prop} {ls : Array Slot} {g : mz_G} {b L : Nat} {xs : Nat → Int32} {VB o q k : Nat} {rs : mz_RS} {h : mz_H} {x3 : Int32}
set_option maxHeartbeats 4000000 in
set_option maxRecDepth 100000 in
theorem lc_22 (X : mz_X p g RL cL_law 4 (fun q : Nat => s.heap.size ≤ q) s m #[Value.ref b] c) (hX : va_X b L xs s s.heap) (hbl : b < s.heap.size) (hin : ∀ j : Nat, j < 8 → vp_in (x3 + nI j) L) (I : lw_I g s VB o q (k + 1) rs h H locs cells slots) (hl : mz_L ls 4 [(0, false, va_rf (some b)), (1, false, va_rf (some o)), (2, false, va_rf (some q)), (3, false, .int x3)]) (cont : ∀ rs' h' H' locs' cells' slots', lw_I g s VB o q k rs' h' H' locs' cells' slots' → W p l e room_1 s m #[Value.ref b] below meth c H' locs' cells' slots' Q (F0 m 1899 ls [])) : W p l e room_1 s m #[Value.ref b] below meth c H locs cells slots Q (F0 m 1031 ls []) := by
  have hbA : ¬ (fun q : Nat => s.heap.size ≤ q) b := Nat.not_le.mpr hbl
  obtain ⟨r, h', kk, n, rs', e1, e2, I', z1, z2, z3, z4⟩ := k_set (q := q) I.1 (xs (x3 + 1).toNatClampNeg) (xs (x3 + 2).toNatClampNeg) (xs (x3 + 3).toNatClampNeg) (xs (x3 + 4).toNatClampNeg) ((mz_shl (((xs (x3 + 5).toNatClampNeg) : Int32).toInt64) 32) ||| ((((xs (x3 + 6).toNatClampNeg) : Int32).toInt64) &&& 4294967295))
  refine mz_aload_n X dL_law_1031 rfl (mz_at hl 1 rfl) ?_
  refine mz_aload_n X dL_law_1032 rfl (mz_at hl 0 rfl) ?_
  refine lv_iload_n X.1 X.2.1 dL_law_1033 rfl (mz_at hl 3 rfl) ?_
  refine lv_iconst (v := 1) X.1 X.2.1 dL_law_1034 (by decide) ?_
  refine lv_iadd X.1 X.2.1 dL_law_1035 ?_
  refine va_sld X.1 X.2.1 hX hbl hbA I.2.1.2.2.2 (hin 1 (by decide)) dL_law_1036 ?_
  refine mz_aload_n X dL_law_1037 rfl (mz_at hl 0 rfl) ?_
  refine lv_iload_n X.1 X.2.1 dL_law_1038 rfl (mz_at hl 3 rfl) ?_
  refine lv_iconst (v := 2) X.1 X.2.1 dL_law_1039 (by decide) ?_
  refine lv_iadd X.1 X.2.1 dL_law_1040 ?_
  refine va_sld X.1 X.2.1 hX hbl hbA I.2.1.2.2.2 (hin 2 (by decide)) dL_law_1041 ?_
  refine mz_aload_n X dL_law_1042 rfl (mz_at hl 0 rfl) ?_
  refine lv_iload_n X.1 X.2.1 dL_law_1043 rfl (mz_at hl 3 rfl) ?_
  refine lv_iconst (v := 3) X.1 X.2.1 dL_law_1044 (by decide) ?_
  refine lv_iadd X.1 X.2.1 dL_law_1045 ?_
  refine va_sld X.1 X.2.1 hX hbl hbA I.2.1.2.2.2 (hin 3 (by decide)) dL_law_1046 ?_
  refine mz_aload_n X dL_law_1047 rfl (mz_at hl 0 rfl) ?_
  refine lv_iload_n X.1 X.2.1 dL_law_1048 rfl (mz_at hl 3 rfl) ?_
  refine lv_iconst (v := 4) X.1 X.2.1 dL_law_1049 (by decide) ?_
  refine lv_iadd X.1 X.2.1 dL_law_1050 ?_
  refine va_sld X.1 X.2.1 hX hbl hbA I.2.1.2.2.2 (hin 4 (by decide)) dL_law_1051 ?_
  refine mz_aload_n X dL_law_1052 rfl (mz_at hl 0 rfl) ?_
  refine lv_iload_n X.1 X.2.1 dL_law_1053 rfl (mz_at hl 3 rfl) ?_
  refine lv_iconst (v := 5) X.1 X.2.1 dL_law_1054 (by decide) ?_
  refine lv_iadd X.1 X.2.1 dL_law_1055 ?_
  refine va_sld X.1 X.2.1 hX hbl hbA I.2.1.2.2.2 (hin 5 (by decide)) dL_law_1056 ?_
  refine lv_i2l (v := (((xs (x3 + 5).toNatClampNeg) : Int32).toInt64)) X.1 X.2.1 dL_law_1057 rfl ?_
  refine lv_bipush (v := 32) X.1 X.2.1 dL_law_1058 (by decide) ?_
  refine lv_lshl (v := (mz_shl (((xs (x3 + 5).toNatClampNeg) : Int32).toInt64) 32)) X.1 X.2.1 dL_law_1060 rfl ?_
  refine mz_aload_n X dL_law_1061 rfl (mz_at hl 0 rfl) ?_
  refine lv_iload_n X.1 X.2.1 dL_law_1062 rfl (mz_at hl 3 rfl) ?_
  refine lv_bipush (v := 6) X.1 X.2.1 dL_law_1063 (by decide) ?_
  refine lv_iadd X.1 X.2.1 dL_law_1065 ?_
  refine va_sld X.1 X.2.1 hX hbl hbA I.2.1.2.2.2 (hin 6 (by decide)) dL_law_1066 ?_
  refine lv_i2l (v := (((xs (x3 + 6).toNatClampNeg) : Int32).toInt64)) X.1 X.2.1 dL_law_1067 rfl ?_
  refine mz_ldc2 (v := 4294967295) X (mz_tb 1422 (by decide +kernel) rfl) dL_law_1068 ?_
  refine lv_land X.1 X.2.1 dL_law_1071 ?_
  refine lv_lor X.1 X.2.1 dL_law_1072 ?_
  refine lw_x X I.2.1 I.1.is hl.1.1 [.int (xs (x3 + 1).toNatClampNeg), .int (xs (x3 + 2).toNatClampNeg), .int (xs (x3 + 3).toNatClampNeg), .int (xs (x3 + 4).toNatClampNeg), .long ((mz_shl (((xs (x3 + 5).toNatClampNeg) : Int32).toInt64) 32) ||| ((((xs (x3 + 6).toNatClampNeg) : Int32).toInt64) &&& 4294967295))] (ct_X11_set l g h (some o) (xs (x3 + 1).toNatClampNeg) (xs (x3 + 2).toNatClampNeg) (xs (x3 + 3).toNatClampNeg) (xs (x3 + 4).toNatClampNeg) ((mz_shl (((xs (x3 + 5).toNatClampNeg) : Int32).toInt64) 32) ||| ((((xs (x3 + 6).toNatClampNeg) : Int32).toInt64) &&& 4294967295)) r h' kk n e1) lb_109 li_X11_set rfl ⟨Nat.le_of_ble_eq_true rfl, Nat.le_of_ble_eq_true rfl⟩ (lw_bud I I' z2 z3 z4) dL_law_1073 rfl (fun H1 locs1 J => ?_)
  refine mz_aload_n X dL_law_1076 rfl (mz_at hl 2 rfl) ?_
  refine mz_aload_n X dL_law_1077 rfl (mz_at hl 0 rfl) ?_
  refine lv_iload_n X.1 X.2.1 dL_law_1078 rfl (mz_at hl 3 rfl) ?_
  refine lv_iconst (v := 1) X.1 X.2.1 dL_law_1079 (by decide) ?_
  refine lv_iadd X.1 X.2.1 dL_law_1080 ?_
  refine va_sld X.1 X.2.1 hX hbl hbA J.2.2.2 (hin 1 (by decide)) dL_law_1081 ?_
  refine mz_aload_n X dL_law_1082 rfl (mz_at hl 0 rfl) ?_
  refine lv_iload_n X.1 X.2.1 dL_law_1083 rfl (mz_at hl 3 rfl) ?_
  refine lv_iconst (v := 2) X.1 X.2.1 dL_law_1084 (by decide) ?_
  refine lv_iadd X.1 X.2.1 dL_law_1085 ?_
  refine va_sld X.1 X.2.1 hX hbl hbA J.2.2.2 (hin 2 (by decide)) dL_law_1086 ?_
  refine mz_aload_n X dL_law_1087 rfl (mz_at hl 0 rfl) ?_
  refine lv_iload_n X.1 X.2.1 dL_law_1088 rfl (mz_at hl 3 rfl) ?_
  refine lv_iconst (v := 3) X.1 X.2.1 dL_law_1089 (by decide) ?_
  refine lv_iadd X.1 X.2.1 dL_law_1090 ?_
  refine va_sld X.1 X.2.1 hX hbl hbA J.2.2.2 (hin 3 (by decide)) dL_law_1091 ?_
  refine mz_aload_n X dL_law_1092 rfl (mz_at hl 0 rfl) ?_
  refine lv_iload_n X.1 X.2.1 dL_law_1093 rfl (mz_at hl 3 rfl) ?_
  refine lv_iconst (v := 4) X.1 X.2.1 dL_law_1094 (by decide) ?_
  refine lv_iadd X.1 X.2.1 dL_law_1095 ?_
  refine va_sld X.1 X.2.1 hX hbl hbA J.2.2.2 (hin 4 (by decide)) dL_law_1096 ?_
  refine mz_aload_n X dL_law_1097 rfl (mz_at hl 0 rfl) ?_
  refine lv_iload_n X.1 X.2.1 dL_law_1098 rfl (mz_at hl 3 rfl) ?_
  refine lv_iconst (v := 5) X.1 X.2.1 dL_law_1099 (by decide) ?_
  refine lv_iadd X.1 X.2.1 dL_law_1100 ?_
  refine va_sld X.1 X.2.1 hX hbl hbA J.2.2.2 (hin 5 (by decide)) dL_law_1101 ?_
  refine lv_i2l (v := (((xs (x3 + 5).toNatClampNeg) : Int32).toInt64)) X.1 X.2.1 dL_law_1102 rfl ?_
  refine lv_bipush (v := 32) X.1 X.2.1 dL_law_1103 (by decide) ?_
  refine lv_lshl (v := (mz_shl (((xs (x3 + 5).toNatClampNeg) : Int32).toInt64) 32)) X.1 X.2.1 dL_law_1105 rfl ?_
  refine mz_aload_n X dL_law_1106 rfl (mz_at hl 0 rfl) ?_
  refine lv_iload_n X.1 X.2.1 dL_law_1107 rfl (mz_at hl 3 rfl) ?_
  refine lv_bipush (v := 6) X.1 X.2.1 dL_law_1108 (by decide) ?_
  refine lv_iadd X.1 X.2.1 dL_law_1110 ?_
  refine va_sld X.1 X.2.1 hX hbl hbA J.2.2.2 (hin 6 (by decide)) dL_law_1111 ?_
  refine lv_i2l (v := (((xs (x3 + 6).toNatClampNeg) : Int32).toInt64)) X.1 X.2.1 dL_law_1112 rfl ?_
  refine mz_ldc2 (v := 4294967295) X (mz_tb 1422 (by decide +kernel) rfl) dL_law_1113 ?_
  refine lv_land X.1 X.2.1 dL_law_1116 ?_
  refine lv_lor X.1 X.2.1 dL_law_1117 ?_
  refine lw_m X J hl.1.1 [.int (xs (x3 + 1).toNatClampNeg), .int (xs (x3 + 2).toNatClampNeg), .int (xs (x3 + 3).toNatClampNeg), .int (xs (x3 + 4).toNatClampNeg), .long ((mz_shl (((xs (x3 + 5).toNatClampNeg) : Int32).toInt64) 32) ||| ((((xs (x3 + 6).toNatClampNeg) : Int32).toInt64) &&& 4294967295))] (ct_X12_set l g (mz_RH q h'.2 rs) (some q) (xs (x3 + 1).toNatClampNeg) (xs (x3 + 2).toNatClampNeg) (xs (x3 + 3).toNatClampNeg) (xs (x3 + 4).toNatClampNeg) ((mz_shl (((xs (x3 + 5).toNatClampNeg) : Int32).toInt64) 32) ||| ((((xs (x3 + 6).toNatClampNeg) : Int32).toInt64) &&& 4294967295)) r (mz_RH q h'.2 rs') 0 0 e2) lb_113 li_X12_set rfl ⟨Nat.le_of_ble_eq_true rfl, Nat.le_of_ble_eq_true rfl⟩ (lw_bud I I' z2 z3 z4) dL_law_1118 rfl (fun H2 locs2 J2 => ?_)
  refine lv_icmp_eq (tgt := 1899) X.1 X.2.1 dL_law_1121 (by decide) (fun _ => ?_) (fun z => absurd rfl z)
  exact cont _ _ _ _ _ _ (lw_next I I' z2 z3 z4 J2)
end
theorem dL_law_1126 : decode cL_law 1126 = .ok (.aload_n 1, 1) := by decide +kernel
theorem dL_law_1127 : decode cL_law 1127 = .ok (.aload_n 0, 1) := by decide +kernel
theorem dL_law_1128 : decode cL_law 1128 = .ok (.iload_n 3, 1) := by decide +kernel
theorem dL_law_1129 : decode cL_law 1129 = .ok (.iconst 1, 1) := by decide +kernel
theorem dL_law_1130 : decode cL_law 1130 = .ok (.iadd, 1) := by decide +kernel
theorem dL_law_1131 : decode cL_law 1131 = .ok (.iaload, 1) := by decide +kernel
theorem dL_law_1132 : decode cL_law 1132 = .ok (.aload_n 0, 1) := by decide +kernel
theorem dL_law_1133 : decode cL_law 1133 = .ok (.iload_n 3, 1) := by decide +kernel
theorem dL_law_1134 : decode cL_law 1134 = .ok (.iconst 2, 1) := by decide +kernel
theorem dL_law_1135 : decode cL_law 1135 = .ok (.iadd, 1) := by decide +kernel
theorem dL_law_1136 : decode cL_law 1136 = .ok (.iaload, 1) := by decide +kernel
theorem dL_law_1137 : decode cL_law 1137 = .ok (.aload_n 0, 1) := by decide +kernel
theorem dL_law_1138 : decode cL_law 1138 = .ok (.iload_n 3, 1) := by decide +kernel
theorem dL_law_1139 : decode cL_law 1139 = .ok (.iconst 3, 1) := by decide +kernel
theorem dL_law_1140 : decode cL_law 1140 = .ok (.iadd, 1) := by decide +kernel
theorem dL_law_1141 : decode cL_law 1141 = .ok (.iaload, 1) := by decide +kernel
theorem dL_law_1142 : decode cL_law 1142 = .ok (.aload_n 0, 1) := by decide +kernel
theorem dL_law_1143 : decode cL_law 1143 = .ok (.iload_n 3, 1) := by decide +kernel
theorem dL_law_1144 : decode cL_law 1144 = .ok (.iconst 4, 1) := by decide +kernel
theorem dL_law_1145 : decode cL_law 1145 = .ok (.iadd, 1) := by decide +kernel
theorem dL_law_1146 : decode cL_law 1146 = .ok (.iaload, 1) := by decide +kernel
theorem dL_law_1147 : decode cL_law 1147 = .ok (.aload_n 0, 1) := by decide +kernel
theorem dL_law_1148 : decode cL_law 1148 = .ok (.iload_n 3, 1) := by decide +kernel
theorem dL_law_1149 : decode cL_law 1149 = .ok (.iconst 5, 1) := by decide +kernel
theorem dL_law_1150 : decode cL_law 1150 = .ok (.iadd, 1) := by decide +kernel
theorem dL_law_1151 : decode cL_law 1151 = .ok (.iaload, 1) := by decide +kernel
theorem dL_law_1152 : decode cL_law 1152 = .ok (.invokevirtual 114, 3) := by decide +kernel
theorem dL_law_1155 : decode cL_law 1155 = .ok (.aload_n 2, 1) := by decide +kernel
theorem dL_law_1156 : decode cL_law 1156 = .ok (.aload_n 0, 1) := by decide +kernel
theorem dL_law_1157 : decode cL_law 1157 = .ok (.iload_n 3, 1) := by decide +kernel
theorem dL_law_1158 : decode cL_law 1158 = .ok (.iconst 1, 1) := by decide +kernel
theorem dL_law_1159 : decode cL_law 1159 = .ok (.iadd, 1) := by decide +kernel
theorem dL_law_1160 : decode cL_law 1160 = .ok (.iaload, 1) := by decide +kernel
theorem dL_law_1161 : decode cL_law 1161 = .ok (.aload_n 0, 1) := by decide +kernel
theorem dL_law_1162 : decode cL_law 1162 = .ok (.iload_n 3, 1) := by decide +kernel
theorem dL_law_1163 : decode cL_law 1163 = .ok (.iconst 2, 1) := by decide +kernel
theorem dL_law_1164 : decode cL_law 1164 = .ok (.iadd, 1) := by decide +kernel
theorem dL_law_1165 : decode cL_law 1165 = .ok (.iaload, 1) := by decide +kernel
theorem dL_law_1166 : decode cL_law 1166 = .ok (.aload_n 0, 1) := by decide +kernel
theorem dL_law_1167 : decode cL_law 1167 = .ok (.iload_n 3, 1) := by decide +kernel
theorem dL_law_1168 : decode cL_law 1168 = .ok (.iconst 3, 1) := by decide +kernel
theorem dL_law_1169 : decode cL_law 1169 = .ok (.iadd, 1) := by decide +kernel
theorem dL_law_1170 : decode cL_law 1170 = .ok (.iaload, 1) := by decide +kernel
theorem dL_law_1171 : decode cL_law 1171 = .ok (.aload_n 0, 1) := by decide +kernel
theorem dL_law_1172 : decode cL_law 1172 = .ok (.iload_n 3, 1) := by decide +kernel
theorem dL_law_1173 : decode cL_law 1173 = .ok (.iconst 4, 1) := by decide +kernel
theorem dL_law_1174 : decode cL_law 1174 = .ok (.iadd, 1) := by decide +kernel
theorem dL_law_1175 : decode cL_law 1175 = .ok (.iaload, 1) := by decide +kernel
theorem dL_law_1176 : decode cL_law 1176 = .ok (.aload_n 0, 1) := by decide +kernel
theorem dL_law_1177 : decode cL_law 1177 = .ok (.iload_n 3, 1) := by decide +kernel
theorem dL_law_1178 : decode cL_law 1178 = .ok (.iconst 5, 1) := by decide +kernel
theorem dL_law_1179 : decode cL_law 1179 = .ok (.iadd, 1) := by decide +kernel
theorem dL_law_1180 : decode cL_law 1180 = .ok (.iaload, 1) := by decide +kernel
theorem dL_law_1181 : decode cL_law 1181 = .ok (.invokevirtual 118, 3) := by decide +kernel
theorem dL_law_1184 : decode cL_law 1184 = .ok (.if_icmp .eq 715, 3) := by decide +kernel
theorem lb_114 : mz_MB RL 114 yX11_link cX11_link 7 (some .int) 5 := ⟨mz_tb 713 (by decide +kernel) rfl, mz_tb 40 (by decide +kernel) rfl, mz_tb 716 (by decide +kernel) rfl, by decide, by decide, by decide +kernel⟩
theorem li_X11_link : Cond.instanceMethod yX11_link ∈ mz_tbl ∧ Cond.selects RX11 yX11_link yX11_link ∈ mz_tbl := ⟨mz_tb 714 (by decide +kernel) rfl, mz_tb 715 (by decide +kernel) rfl⟩
theorem lb_118 : mz_MB RL 118 yX12_link cX12_link 8 (some .int) 5 := ⟨mz_tb 1322 (by decide +kernel) rfl, mz_tb 45 (by decide +kernel) rfl, mz_tb 1325 (by decide +kernel) rfl, by decide, by decide, by decide +kernel⟩
theorem li_X12_link : Cond.instanceMethod yX12_link ∈ mz_tbl ∧ Cond.selects RX12 yX12_link yX12_link ∈ mz_tbl := ⟨mz_tb 1323 (by decide +kernel) rfl, mz_tb 1324 (by decide +kernel) rfl⟩
section
variable {p : Program} {l : Launch} {e : Env} {s : State} {m : MethodId} {below : List Frame} {meth : Method} {c : Code} {H : Heap} {locs : List Loc} {cells slots : Nat} {Q : State → Prop} {ls : Array Slot} {g : mz_G} {b L : Nat} {xs : Nat → Int32} {VB o q k : Nat} {rs : mz_RS} {h : mz_H} {x3 : Int32}
set_option maxHeartbeats 4000000 in
set_option maxRecDepth 100000 in
theorem lc_23 (X : mz_X p g RL cL_law 4 (fun q : Nat => s.heap.size ≤ q) s m #[Value.ref b] c) (hX : va_X b L xs s s.heap) (hbl : b < s.heap.size) (hin : ∀ j : Nat, j < 8 → vp_in (x3 + nI j) L) (I : lw_I g s VB o q (k + 1) rs h H locs cells slots) (hl : mz_L ls 4 [(0, false, va_rf (some b)), (1, false, va_rf (some o)), (2, false, va_rf (some q)), (3, false, .int x3)]) (cont : ∀ rs' h' H' locs' cells' slots', lw_I g s VB o q k rs' h' H' locs' cells' slots' → W p l e room_1 s m #[Value.ref b] below meth c H' locs' cells' slots' Q (F0 m 1899 ls [])) : W p l e room_1 s m #[Value.ref b] below meth c H locs cells slots Q (F0 m 1126 ls []) := by
  have hbA : ¬ (fun q : Nat => s.heap.size ≤ q) b := Nat.not_le.mpr hbl
  obtain ⟨r, h', kk, n, rs', e1, e2, I', z1, z2, z3, z4⟩ := k_link (q := q) I.1 (xs (x3 + 1).toNatClampNeg) (xs (x3 + 2).toNatClampNeg) (xs (x3 + 3).toNatClampNeg) (xs (x3 + 4).toNatClampNeg) (xs (x3 + 5).toNatClampNeg)
  refine mz_aload_n X dL_law_1126 rfl (mz_at hl 1 rfl) ?_
  refine mz_aload_n X dL_law_1127 rfl (mz_at hl 0 rfl) ?_
  refine lv_iload_n X.1 X.2.1 dL_law_1128 rfl (mz_at hl 3 rfl) ?_
  refine lv_iconst (v := 1) X.1 X.2.1 dL_law_1129 (by decide) ?_
  refine lv_iadd X.1 X.2.1 dL_law_1130 ?_
  refine va_sld X.1 X.2.1 hX hbl hbA I.2.1.2.2.2 (hin 1 (by decide)) dL_law_1131 ?_
  refine mz_aload_n X dL_law_1132 rfl (mz_at hl 0 rfl) ?_
  refine lv_iload_n X.1 X.2.1 dL_law_1133 rfl (mz_at hl 3 rfl) ?_
  refine lv_iconst (v := 2) X.1 X.2.1 dL_law_1134 (by decide) ?_
  refine lv_iadd X.1 X.2.1 dL_law_1135 ?_
  refine va_sld X.1 X.2.1 hX hbl hbA I.2.1.2.2.2 (hin 2 (by decide)) dL_law_1136 ?_
  refine mz_aload_n X dL_law_1137 rfl (mz_at hl 0 rfl) ?_
  refine lv_iload_n X.1 X.2.1 dL_law_1138 rfl (mz_at hl 3 rfl) ?_
  refine lv_iconst (v := 3) X.1 X.2.1 dL_law_1139 (by decide) ?_
  refine lv_iadd X.1 X.2.1 dL_law_1140 ?_
  refine va_sld X.1 X.2.1 hX hbl hbA I.2.1.2.2.2 (hin 3 (by decide)) dL_law_1141 ?_
  refine mz_aload_n X dL_law_1142 rfl (mz_at hl 0 rfl) ?_
  refine lv_iload_n X.1 X.2.1 dL_law_1143 rfl (mz_at hl 3 rfl) ?_
  refine lv_iconst (v := 4) X.1 X.2.1 dL_law_1144 (by decide) ?_
  refine lv_iadd X.1 X.2.1 dL_law_1145 ?_
  refine va_sld X.1 X.2.1 hX hbl hbA I.2.1.2.2.2 (hin 4 (by decide)) dL_law_1146 ?_
  refine mz_aload_n X dL_law_1147 rfl (mz_at hl 0 rfl) ?_
  refine lv_iload_n X.1 X.2.1 dL_law_1148 rfl (mz_at hl 3 rfl) ?_
  refine lv_iconst (v := 5) X.1 X.2.1 dL_law_1149 (by decide) ?_
  refine lv_iadd X.1 X.2.1 dL_law_1150 ?_
  refine va_sld X.1 X.2.1 hX hbl hbA I.2.1.2.2.2 (hin 5 (by decide)) dL_law_1151 ?_
  refine lw_x X I.2.1 I.1.is hl.1.1 [.int (xs (x3 + 1).toNatClampNeg), .int (xs (x3 + 2).toNatClampNeg), .int (xs (x3 + 3).toNatClampNeg), .int (xs (x3 + 4).toNatClampNeg), .int (xs (x3 + 5).toNatClampNeg)] (ct_X11_link l g h (some o) (xs (x3 + 1).toNatClampNeg) (xs (x3 + 2).toNatClampNeg) (xs (x3 + 3).toNatClampNeg) (xs (x3 + 4).toNatClampNeg) (xs (x3 + 5).toNatClampNeg) r h' kk n e1) lb_114 li_X11_link rfl ⟨Nat.le_of_ble_eq_true rfl, Nat.le_of_ble_eq_true rfl⟩ (lw_bud I I' z2 z3 z4) dL_law_1152 rfl (fun H1 locs1 J => ?_)
  refine mz_aload_n X dL_law_1155 rfl (mz_at hl 2 rfl) ?_
  refine mz_aload_n X dL_law_1156 rfl (mz_at hl 0 rfl) ?_
  refine lv_iload_n X.1 X.2.1 dL_law_1157 rfl (mz_at hl 3 rfl) ?_
  refine lv_iconst (v := 1) X.1 X.2.1 dL_law_1158 (by decide) ?_
  refine lv_iadd X.1 X.2.1 dL_law_1159 ?_
  refine va_sld X.1 X.2.1 hX hbl hbA J.2.2.2 (hin 1 (by decide)) dL_law_1160 ?_
  refine mz_aload_n X dL_law_1161 rfl (mz_at hl 0 rfl) ?_
  refine lv_iload_n X.1 X.2.1 dL_law_1162 rfl (mz_at hl 3 rfl) ?_
  refine lv_iconst (v := 2) X.1 X.2.1 dL_law_1163 (by decide) ?_
  refine lv_iadd X.1 X.2.1 dL_law_1164 ?_
  refine va_sld X.1 X.2.1 hX hbl hbA J.2.2.2 (hin 2 (by decide)) dL_law_1165 ?_
  refine mz_aload_n X dL_law_1166 rfl (mz_at hl 0 rfl) ?_
  refine lv_iload_n X.1 X.2.1 dL_law_1167 rfl (mz_at hl 3 rfl) ?_
  refine lv_iconst (v := 3) X.1 X.2.1 dL_law_1168 (by decide) ?_
  refine lv_iadd X.1 X.2.1 dL_law_1169 ?_
  refine va_sld X.1 X.2.1 hX hbl hbA J.2.2.2 (hin 3 (by decide)) dL_law_1170 ?_
  refine mz_aload_n X dL_law_1171 rfl (mz_at hl 0 rfl) ?_
  refine lv_iload_n X.1 X.2.1 dL_law_1172 rfl (mz_at hl 3 rfl) ?_
  refine lv_iconst (v := 4) X.1 X.2.1 dL_law_1173 (by decide) ?_
  refine lv_iadd X.1 X.2.1 dL_law_1174 ?_
  refine va_sld X.1 X.2.1 hX hbl hbA J.2.2.2 (hin 4 (by decide)) dL_law_1175 ?_
  refine mz_aload_n X dL_law_1176 rfl (mz_at hl 0 rfl) ?_
  refine lv_iload_n X.1 X.2.1 dL_law_1177 rfl (mz_at hl 3 rfl) ?_
  refine lv_iconst (v := 5) X.1 X.2.1 dL_law_1178 (by decide) ?_
  refine lv_iadd X.1 X.2.1 dL_law_1179 ?_
  refine va_sld X.1 X.2.1 hX hbl hbA J.2.2.2 (hin 5 (by decide)) dL_law_1180 ?_
  refine lw_m X J hl.1.1 [.int (xs (x3 + 1).toNatClampNeg), .int (xs (x3 + 2).toNatClampNeg), .int (xs (x3 + 3).toNatClampNeg), .int (xs (x3 + 4).toNatClampNeg), .int (xs (x3 + 5).toNatClampNeg)] (ct_X12_link l g (mz_RH q h'.2 rs) (some q) (xs (x3 + 1).toNatClampNeg) (xs (x3 + 2).toNatClampNeg) (xs (x3 + 3).toNatClampNeg) (xs (x3 + 4).toNatClampNeg) (xs (x3 + 5).toNatClampNeg) r (mz_RH q h'.2 rs') 0 0 e2) lb_118 li_X12_link rfl ⟨Nat.le_of_ble_eq_true rfl, Nat.le_of_ble_eq_true rfl⟩ (lw_bud I I' z2 z3 z4) dL_law_1181 rfl (fun H2 locs2 J2 => ?_)
  refine lv_icmp_eq (tgt := 1899) X.1 X.2.1 dL_law_1184 (by decide) (fun _ => ?_) (fun z => absurd rfl z)
  exact cont _ _ _ _ _ _ (lw_next I I' z2 z3 z4 J2)
end
theorem dL_law_1189 : decode cL_law 1189 = .ok (.aload_n 1, 1) := by decide +kernel
theorem dL_law_1190 : decode cL_law 1190 = .ok (.aload_n 0, 1) := by decide +kernel
theorem dL_law_1191 : decode cL_law 1191 = .ok (.iload_n 3, 1) := by decide +kernel
theorem dL_law_1192 : decode cL_law 1192 = .ok (.iconst 1, 1) := by decide +kernel
theorem dL_law_1193 : decode cL_law 1193 = .ok (.iadd, 1) := by decide +kernel
theorem dL_law_1194 : decode cL_law 1194 = .ok (.iaload, 1) := by decide +kernel
theorem dL_law_1195 : decode cL_law 1195 = .ok (.aload_n 0, 1) := by decide +kernel
theorem dL_law_1196 : decode cL_law 1196 = .ok (.iload_n 3, 1) := by decide +kernel
theorem dL_law_1197 : decode cL_law 1197 = .ok (.iconst 2, 1) := by decide +kernel
theorem dL_law_1198 : decode cL_law 1198 = .ok (.iadd, 1) := by decide +kernel
theorem dL_law_1199 : decode cL_law 1199 = .ok (.iaload, 1) := by decide +kernel
theorem dL_law_1200 : decode cL_law 1200 = .ok (.aload_n 0, 1) := by decide +kernel
theorem dL_law_1201 : decode cL_law 1201 = .ok (.iload_n 3, 1) := by decide +kernel
theorem dL_law_1202 : decode cL_law 1202 = .ok (.iconst 3, 1) := by decide +kernel
theorem dL_law_1203 : decode cL_law 1203 = .ok (.iadd, 1) := by decide +kernel
theorem dL_law_1204 : decode cL_law 1204 = .ok (.iaload, 1) := by decide +kernel
theorem dL_law_1205 : decode cL_law 1205 = .ok (.aload_n 0, 1) := by decide +kernel
theorem dL_law_1206 : decode cL_law 1206 = .ok (.iload_n 3, 1) := by decide +kernel
theorem dL_law_1207 : decode cL_law 1207 = .ok (.iconst 4, 1) := by decide +kernel
theorem dL_law_1208 : decode cL_law 1208 = .ok (.iadd, 1) := by decide +kernel
theorem dL_law_1209 : decode cL_law 1209 = .ok (.iaload, 1) := by decide +kernel
theorem dL_law_1210 : decode cL_law 1210 = .ok (.invokevirtual 119, 3) := by decide +kernel
theorem dL_law_1213 : decode cL_law 1213 = .ok (.aload_n 2, 1) := by decide +kernel
theorem dL_law_1214 : decode cL_law 1214 = .ok (.aload_n 0, 1) := by decide +kernel
theorem dL_law_1215 : decode cL_law 1215 = .ok (.iload_n 3, 1) := by decide +kernel
theorem dL_law_1216 : decode cL_law 1216 = .ok (.iconst 1, 1) := by decide +kernel
theorem dL_law_1217 : decode cL_law 1217 = .ok (.iadd, 1) := by decide +kernel
theorem dL_law_1218 : decode cL_law 1218 = .ok (.iaload, 1) := by decide +kernel
theorem dL_law_1219 : decode cL_law 1219 = .ok (.aload_n 0, 1) := by decide +kernel
theorem dL_law_1220 : decode cL_law 1220 = .ok (.iload_n 3, 1) := by decide +kernel
theorem dL_law_1221 : decode cL_law 1221 = .ok (.iconst 2, 1) := by decide +kernel
theorem dL_law_1222 : decode cL_law 1222 = .ok (.iadd, 1) := by decide +kernel
theorem dL_law_1223 : decode cL_law 1223 = .ok (.iaload, 1) := by decide +kernel
theorem dL_law_1224 : decode cL_law 1224 = .ok (.aload_n 0, 1) := by decide +kernel
theorem dL_law_1225 : decode cL_law 1225 = .ok (.iload_n 3, 1) := by decide +kernel
theorem dL_law_1226 : decode cL_law 1226 = .ok (.iconst 3, 1) := by decide +kernel
theorem dL_law_1227 : decode cL_law 1227 = .ok (.iadd, 1) := by decide +kernel
theorem dL_law_1228 : decode cL_law 1228 = .ok (.iaload, 1) := by decide +kernel
theorem dL_law_1229 : decode cL_law 1229 = .ok (.aload_n 0, 1) := by decide +kernel
theorem dL_law_1230 : decode cL_law 1230 = .ok (.iload_n 3, 1) := by decide +kernel
theorem dL_law_1231 : decode cL_law 1231 = .ok (.iconst 4, 1) := by decide +kernel
theorem dL_law_1232 : decode cL_law 1232 = .ok (.iadd, 1) := by decide +kernel
theorem dL_law_1233 : decode cL_law 1233 = .ok (.iaload, 1) := by decide +kernel
theorem dL_law_1234 : decode cL_law 1234 = .ok (.invokevirtual 122, 3) := by decide +kernel
theorem dL_law_1237 : decode cL_law 1237 = .ok (.lcmp, 1) := by decide +kernel
theorem dL_law_1238 : decode cL_law 1238 = .ok (.ifCond .eq 661, 3) := by decide +kernel
theorem lb_119 : mz_MB RL 119 yX11_as cX11_as 7 (some .long) 4 := ⟨mz_tb 717 (by decide +kernel) rfl, mz_tb 40 (by decide +kernel) rfl, mz_tb 720 (by decide +kernel) rfl, by decide, by decide, by decide +kernel⟩
theorem li_X11_as : Cond.instanceMethod yX11_as ∈ mz_tbl ∧ Cond.selects RX11 yX11_as yX11_as ∈ mz_tbl := ⟨mz_tb 718 (by decide +kernel) rfl, mz_tb 719 (by decide +kernel) rfl⟩
theorem lb_122 : mz_MB RL 122 yX12_as cX12_as 6 (some .long) 4 := ⟨mz_tb 1326 (by decide +kernel) rfl, mz_tb 45 (by decide +kernel) rfl, mz_tb 1329 (by decide +kernel) rfl, by decide, by decide, by decide +kernel⟩
theorem li_X12_as : Cond.instanceMethod yX12_as ∈ mz_tbl ∧ Cond.selects RX12 yX12_as yX12_as ∈ mz_tbl := ⟨mz_tb 1327 (by decide +kernel) rfl, mz_tb 1328 (by decide +kernel) rfl⟩
section
variable {p : Program} {l : Launch} {e : Env} {s : State} {m : MethodId} {below : List Frame} {meth : Method} {c : Code} {H : Heap} {locs : List Loc} {cells slots : Nat} {Q : State → Prop} {ls : Array Slot} {g : mz_G} {b L : Nat} {xs : Nat → Int32} {VB o q k : Nat} {rs : mz_RS} {h : mz_H} {x3 : Int32}
set_option maxHeartbeats 4000000 in
set_option maxRecDepth 100000 in
theorem lc_24 (X : mz_X p g RL cL_law 4 (fun q : Nat => s.heap.size ≤ q) s m #[Value.ref b] c) (hX : va_X b L xs s s.heap) (hbl : b < s.heap.size) (hin : ∀ j : Nat, j < 8 → vp_in (x3 + nI j) L) (I : lw_I g s VB o q (k + 1) rs h H locs cells slots) (hl : mz_L ls 4 [(0, false, va_rf (some b)), (1, false, va_rf (some o)), (2, false, va_rf (some q)), (3, false, .int x3)]) (cont : ∀ rs' h' H' locs' cells' slots', lw_I g s VB o q k rs' h' H' locs' cells' slots' → W p l e room_1 s m #[Value.ref b] below meth c H' locs' cells' slots' Q (F0 m 1899 ls [])) : W p l e room_1 s m #[Value.ref b] below meth c H locs cells slots Q (F0 m 1189 ls []) := by
  have hbA : ¬ (fun q : Nat => s.heap.size ≤ q) b := Nat.not_le.mpr hbl
  obtain ⟨r, h', kk, n, rs', e1, e2, I', z1, z2, z3, z4⟩ := k_as (q := q) I.1 (xs (x3 + 1).toNatClampNeg) (xs (x3 + 2).toNatClampNeg) (xs (x3 + 3).toNatClampNeg) (xs (x3 + 4).toNatClampNeg)
  refine mz_aload_n X dL_law_1189 rfl (mz_at hl 1 rfl) ?_
  refine mz_aload_n X dL_law_1190 rfl (mz_at hl 0 rfl) ?_
  refine lv_iload_n X.1 X.2.1 dL_law_1191 rfl (mz_at hl 3 rfl) ?_
  refine lv_iconst (v := 1) X.1 X.2.1 dL_law_1192 (by decide) ?_
  refine lv_iadd X.1 X.2.1 dL_law_1193 ?_
  refine va_sld X.1 X.2.1 hX hbl hbA I.2.1.2.2.2 (hin 1 (by decide)) dL_law_1194 ?_
  refine mz_aload_n X dL_law_1195 rfl (mz_at hl 0 rfl) ?_
  refine lv_iload_n X.1 X.2.1 dL_law_1196 rfl (mz_at hl 3 rfl) ?_
  refine lv_iconst (v := 2) X.1 X.2.1 dL_law_1197 (by decide) ?_
  refine lv_iadd X.1 X.2.1 dL_law_1198 ?_
  refine va_sld X.1 X.2.1 hX hbl hbA I.2.1.2.2.2 (hin 2 (by decide)) dL_law_1199 ?_
  refine mz_aload_n X dL_law_1200 rfl (mz_at hl 0 rfl) ?_
  refine lv_iload_n X.1 X.2.1 dL_law_1201 rfl (mz_at hl 3 rfl) ?_
  refine lv_iconst (v := 3) X.1 X.2.1 dL_law_1202 (by decide) ?_
  refine lv_iadd X.1 X.2.1 dL_law_1203 ?_
  refine va_sld X.1 X.2.1 hX hbl hbA I.2.1.2.2.2 (hin 3 (by decide)) dL_law_1204 ?_
  refine mz_aload_n X dL_law_1205 rfl (mz_at hl 0 rfl) ?_
  refine lv_iload_n X.1 X.2.1 dL_law_1206 rfl (mz_at hl 3 rfl) ?_
  refine lv_iconst (v := 4) X.1 X.2.1 dL_law_1207 (by decide) ?_
  refine lv_iadd X.1 X.2.1 dL_law_1208 ?_
  refine va_sld X.1 X.2.1 hX hbl hbA I.2.1.2.2.2 (hin 4 (by decide)) dL_law_1209 ?_
  refine lw_x X I.2.1 I.1.is hl.1.1 [.int (xs (x3 + 1).toNatClampNeg), .int (xs (x3 + 2).toNatClampNeg), .int (xs (x3 + 3).toNatClampNeg), .int (xs (x3 + 4).toNatClampNeg)] (ct_X11_as l g h (some o) (xs (x3 + 1).toNatClampNeg) (xs (x3 + 2).toNatClampNeg) (xs (x3 + 3).toNatClampNeg) (xs (x3 + 4).toNatClampNeg) r h' kk n e1) lb_119 li_X11_as rfl ⟨Nat.le_of_ble_eq_true rfl, Nat.le_of_ble_eq_true rfl⟩ (lw_bud I I' z2 z3 z4) dL_law_1210 rfl (fun H1 locs1 J => ?_)
  refine mz_aload_n X dL_law_1213 rfl (mz_at hl 2 rfl) ?_
  refine mz_aload_n X dL_law_1214 rfl (mz_at hl 0 rfl) ?_
  refine lv_iload_n X.1 X.2.1 dL_law_1215 rfl (mz_at hl 3 rfl) ?_
  refine lv_iconst (v := 1) X.1 X.2.1 dL_law_1216 (by decide) ?_
  refine lv_iadd X.1 X.2.1 dL_law_1217 ?_
  refine va_sld X.1 X.2.1 hX hbl hbA J.2.2.2 (hin 1 (by decide)) dL_law_1218 ?_
  refine mz_aload_n X dL_law_1219 rfl (mz_at hl 0 rfl) ?_
  refine lv_iload_n X.1 X.2.1 dL_law_1220 rfl (mz_at hl 3 rfl) ?_
  refine lv_iconst (v := 2) X.1 X.2.1 dL_law_1221 (by decide) ?_
  refine lv_iadd X.1 X.2.1 dL_law_1222 ?_
  refine va_sld X.1 X.2.1 hX hbl hbA J.2.2.2 (hin 2 (by decide)) dL_law_1223 ?_
  refine mz_aload_n X dL_law_1224 rfl (mz_at hl 0 rfl) ?_
  refine lv_iload_n X.1 X.2.1 dL_law_1225 rfl (mz_at hl 3 rfl) ?_
  refine lv_iconst (v := 3) X.1 X.2.1 dL_law_1226 (by decide) ?_
  refine lv_iadd X.1 X.2.1 dL_law_1227 ?_
  refine va_sld X.1 X.2.1 hX hbl hbA J.2.2.2 (hin 3 (by decide)) dL_law_1228 ?_
  refine mz_aload_n X dL_law_1229 rfl (mz_at hl 0 rfl) ?_
  refine lv_iload_n X.1 X.2.1 dL_law_1230 rfl (mz_at hl 3 rfl) ?_
  refine lv_iconst (v := 4) X.1 X.2.1 dL_law_1231 (by decide) ?_
  refine lv_iadd X.1 X.2.1 dL_law_1232 ?_
  refine va_sld X.1 X.2.1 hX hbl hbA J.2.2.2 (hin 4 (by decide)) dL_law_1233 ?_
  refine lw_m X J hl.1.1 [.int (xs (x3 + 1).toNatClampNeg), .int (xs (x3 + 2).toNatClampNeg), .int (xs (x3 + 3).toNatClampNeg), .int (xs (x3 + 4).toNatClampNeg)] (ct_X12_as l g (mz_RH q h'.2 rs) (some q) (xs (x3 + 1).toNatClampNeg) (xs (x3 + 2).toNatClampNeg) (xs (x3 + 3).toNatClampNeg) (xs (x3 + 4).toNatClampNeg) r (mz_RH q h'.2 rs') 0 0 e2) lb_122 li_X12_as rfl ⟨Nat.le_of_ble_eq_true rfl, Nat.le_of_ble_eq_true rfl⟩ (lw_bud I I' z2 z3 z4) dL_law_1234 rfl (fun H2 locs2 J2 => ?_)
  refine W.lcmp X.1 X.2.1 dL_law_1237 ?_
  refine lv_if_eq (tgt := 1899) X.1 X.2.1 dL_law_1238 (by decide) (fun _ => ?_) (fun z => absurd ((lg_cmp_eq r r).mpr rfl) z)
  exact cont _ _ _ _ _ _ (lw_next I I' z2 z3 z4 J2)
end
