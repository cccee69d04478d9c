/-! THE LAW: its cases, e -/
theorem lg_cmp_self (x : Int64) : lg_cmp x x = 0 := by
  unfold lg_cmp
  simp
section LAWC
variable {l : tg_Ln} {K : Option Value → List va_E → Prop} {kc ks i : Nat} {wc wr : List va_E}
theorem dL_law_837 : decode cL_law 837 = .ok (.aload_n 1, 1) := by decide +kernel
theorem dL_law_838 : decode cL_law 838 = .ok (.aload_n 0, 1) := by decide +kernel
theorem dL_law_839 : decode cL_law 839 = .ok (.iload_n 3, 1) := by decide +kernel
theorem dL_law_840 : decode cL_law 840 = .ok (.iconst 1, 1) := by decide +kernel
theorem dL_law_841 : decode cL_law 841 = .ok (.iadd, 1) := by decide +kernel
theorem dL_law_842 : decode cL_law 842 = .ok (.iaload, 1) := by decide +kernel
theorem dL_law_843 : decode cL_law 843 = .ok (.aload_n 0, 1) := by decide +kernel
theorem dL_law_844 : decode cL_law 844 = .ok (.iload_n 3, 1) := by decide +kernel
theorem dL_law_845 : decode cL_law 845 = .ok (.iconst 2, 1) := by decide +kernel
theorem dL_law_846 : decode cL_law 846 = .ok (.iadd, 1) := by decide +kernel
theorem dL_law_847 : decode cL_law 847 = .ok (.iaload, 1) := by decide +kernel
theorem dL_law_848 : decode cL_law 848 = .ok (.invokevirtual 118, 3) := by decide +kernel
theorem vL_law_848 : tg_VS mL_law 848 mX8_bits 2 := ⟨okX8_bits, ⟨118, dL_law_848, mlL_118⟩, insX8_bits, selX8_bits, parX8_bits, rfl, rfl, Nat.le_of_ble_eq_true rfl, Nat.le_of_ble_eq_true rfl⟩
theorem dL_law_851 : decode cL_law 851 = .ok (.aload_n 2, 1) := by decide +kernel
theorem dL_law_852 : decode cL_law 852 = .ok (.aload_n 0, 1) := by decide +kernel
theorem dL_law_853 : decode cL_law 853 = .ok (.iload_n 3, 1) := by decide +kernel
theorem dL_law_854 : decode cL_law 854 = .ok (.iconst 1, 1) := by decide +kernel
theorem dL_law_855 : decode cL_law 855 = .ok (.iadd, 1) := by decide +kernel
theorem dL_law_856 : decode cL_law 856 = .ok (.iaload, 1) := by decide +kernel
theorem dL_law_857 : decode cL_law 857 = .ok (.aload_n 0, 1) := by decide +kernel
theorem dL_law_858 : decode cL_law 858 = .ok (.iload_n 3, 1) := by decide +kernel
theorem dL_law_859 : decode cL_law 859 = .ok (.iconst 2, 1) := by decide +kernel
theorem dL_law_860 : decode cL_law 860 = .ok (.iadd, 1) := by decide +kernel
theorem dL_law_861 : decode cL_law 861 = .ok (.iaload, 1) := by decide +kernel
theorem dL_law_862 : decode cL_law 862 = .ok (.invokevirtual 121, 3) := by decide +kernel
theorem vL_law_862 : tg_VS mL_law 862 mX9_bits 2 := ⟨okX9_bits, ⟨121, dL_law_862, mlL_121⟩, insX9_bits, selX9_bits, parX9_bits, rfl, rfl, Nat.le_of_ble_eq_true rfl, Nat.le_of_ble_eq_true rfl⟩
theorem dL_law_865 : decode cL_law 865 = .ok (.if_icmp .eq 131, 3) := by decide +kernel
theorem lw_837 (hK : ∀ wc wr, J wc wr → tg_G l mL_law 0 K kc ks 996 (lvL i) [] (jn wc wr)) (h : J wc wr) (hi : i + 4 < l.2.1) (hL : l.2.1 ≤ 2560) : tg_G l mL_law 0 K kc ks 837 (lvL i) [] (jn wc wr) := (lw_a1 dL_law_837 (lw_arg 1 (by decide) dL_law_838 dL_law_839 dL_law_840 dL_law_841 dL_law_842 hi hL (lw_arg 2 (by decide) dL_law_843 dL_law_844 dL_law_845 dL_law_846 dL_law_847 hi hL (lw_c8 [l.2.2 (i + 1), l.2.2 (i + 2)] vL_law_848 (J_bits h) h rfl rfl (Nat.le_of_ble_eq_true rfl) (fun wc1 x h1 h2 => (lw_a2 dL_law_851 (lw_arg 1 (by decide) dL_law_852 dL_law_853 dL_law_854 dL_law_855 dL_law_856 hi hL (lw_arg 2 (by decide) dL_law_857 dL_law_858 dL_law_859 dL_law_860 dL_law_861 hi hL (lw_c9 [l.2.2 (i + 1), l.2.2 (i + 2)] vL_law_862 h h1 h2 rfl rfl (Nat.le_of_ble_eq_true rfl) (fun wr1 h3 => g_icmp_eq (tgt := 996) dL_law_865 rfl (fun _ => hK _ _ h3) (fun q => absurd rfl q)))))))))))
theorem dL_law_870 : decode cL_law 870 = .ok (.aload_n 1, 1) := by decide +kernel
theorem dL_law_871 : decode cL_law 871 = .ok (.aload_n 0, 1) := by decide +kernel
theorem dL_law_872 : decode cL_law 872 = .ok (.iload_n 3, 1) := by decide +kernel
theorem dL_law_873 : decode cL_law 873 = .ok (.iconst 1, 1) := by decide +kernel
theorem dL_law_874 : decode cL_law 874 = .ok (.iadd, 1) := by decide +kernel
theorem dL_law_875 : decode cL_law 875 = .ok (.iaload, 1) := by decide +kernel
theorem dL_law_876 : decode cL_law 876 = .ok (.invokevirtual 122, 3) := by decide +kernel
theorem vL_law_876 : tg_VS mL_law 876 mX8_sum 1 := ⟨okX8_sum, ⟨122, dL_law_876, mlL_122⟩, insX8_sum, selX8_sum, parX8_sum, rfl, rfl, Nat.le_of_ble_eq_true rfl, Nat.le_of_ble_eq_true rfl⟩
theorem dL_law_879 : decode cL_law 879 = .ok (.aload_n 2, 1) := by decide +kernel
theorem dL_law_880 : decode cL_law 880 = .ok (.aload_n 0, 1) := by decide +kernel
theorem dL_law_881 : decode cL_law 881 = .ok (.iload_n 3, 1) := by decide +kernel
theorem dL_law_882 : decode cL_law 882 = .ok (.iconst 1, 1) := by decide +kernel
theorem dL_law_883 : decode cL_law 883 = .ok (.iadd, 1) := by decide +kernel
theorem dL_law_884 : decode cL_law 884 = .ok (.iaload, 1) := by decide +kernel
theorem dL_law_885 : decode cL_law 885 = .ok (.invokevirtual 125, 3) := by decide +kernel
theorem vL_law_885 : tg_VS mL_law 885 mX9_sum 1 := ⟨okX9_sum, ⟨125, dL_law_885, mlL_125⟩, insX9_sum, selX9_sum, parX9_sum, rfl, rfl, Nat.le_of_ble_eq_true rfl, Nat.le_of_ble_eq_true rfl⟩
theorem dL_law_888 : decode cL_law 888 = .ok (.if_icmp .eq 108, 3) := by decide +kernel
theorem lw_870 (hK : ∀ wc wr, J wc wr → tg_G l mL_law 0 K kc ks 996 (lvL i) [] (jn wc wr)) (h : J wc wr) (hi : i + 4 < l.2.1) (hL : l.2.1 ≤ 2560) : tg_G l mL_law 0 K kc ks 870 (lvL i) [] (jn wc wr) := (lw_a1 dL_law_870 (lw_arg 1 (by decide) dL_law_871 dL_law_872 dL_law_873 dL_law_874 dL_law_875 hi hL (lw_c8 [l.2.2 (i + 1)] vL_law_876 (J_sum h) h rfl rfl (Nat.le_of_ble_eq_true rfl) (fun wc1 x h1 h2 => (lw_a2 dL_law_879 (lw_arg 1 (by decide) dL_law_880 dL_law_881 dL_law_882 dL_law_883 dL_law_884 hi hL (lw_c9 [l.2.2 (i + 1)] vL_law_885 h h1 h2 rfl rfl (Nat.le_of_ble_eq_true rfl) (fun wr1 h3 => g_icmp_eq (tgt := 996) dL_law_888 rfl (fun _ => hK _ _ h3) (fun q => absurd rfl q)))))))))
theorem dL_law_893 : decode cL_law 893 = .ok (.aload_n 1, 1) := by decide +kernel
theorem dL_law_894 : decode cL_law 894 = .ok (.aload_n 0, 1) := by decide +kernel
theorem dL_law_895 : decode cL_law 895 = .ok (.iload_n 3, 1) := by decide +kernel
theorem dL_law_896 : decode cL_law 896 = .ok (.iconst 1, 1) := by decide +kernel
theorem dL_law_897 : decode cL_law 897 = .ok (.iadd, 1) := by decide +kernel
theorem dL_law_898 : decode cL_law 898 = .ok (.iaload, 1) := by decide +kernel
theorem dL_law_899 : decode cL_law 899 = .ok (.aload_n 0, 1) := by decide +kernel
theorem dL_law_900 : decode cL_law 900 = .ok (.iload_n 3, 1) := by decide +kernel
theorem dL_law_901 : decode cL_law 901 = .ok (.iconst 2, 1) := by decide +kernel
theorem dL_law_902 : decode cL_law 902 = .ok (.iadd, 1) := by decide +kernel
theorem dL_law_903 : decode cL_law 903 = .ok (.iaload, 1) := by decide +kernel
theorem dL_law_904 : decode cL_law 904 = .ok (.aload_n 0, 1) := by decide +kernel
theorem dL_law_905 : decode cL_law 905 = .ok (.iload_n 3, 1) := by decide +kernel
theorem dL_law_906 : decode cL_law 906 = .ok (.iconst 3, 1) := by decide +kernel
theorem dL_law_907 : decode cL_law 907 = .ok (.iadd, 1) := by decide +kernel
theorem dL_law_908 : decode cL_law 908 = .ok (.iaload, 1) := by decide +kernel
theorem dL_law_909 : decode cL_law 909 = .ok (.invokevirtual 126, 3) := by decide +kernel
theorem vL_law_909 : tg_VS mL_law 909 mX8_load 3 := ⟨okX8_load, ⟨126, dL_law_909, mlL_126⟩, insX8_load, selX8_load, parX8_load, rfl, rfl, Nat.le_of_ble_eq_true rfl, Nat.le_of_ble_eq_true rfl⟩
theorem dL_law_912 : decode cL_law 912 = .ok (.aload_n 2, 1) := by decide +kernel
theorem dL_law_913 : decode cL_law 913 = .ok (.aload_n 0, 1) := by decide +kernel
theorem dL_law_914 : decode cL_law 914 = .ok (.iload_n 3, 1) := by decide +kernel
theorem dL_law_915 : decode cL_law 915 = .ok (.iconst 1, 1) := by decide +kernel
theorem dL_law_916 : decode cL_law 916 = .ok (.iadd, 1) := by decide +kernel
theorem dL_law_917 : decode cL_law 917 = .ok (.iaload, 1) := by decide +kernel
theorem dL_law_918 : decode cL_law 918 = .ok (.aload_n 0, 1) := by decide +kernel
theorem dL_law_919 : decode cL_law 919 = .ok (.iload_n 3, 1) := by decide +kernel
theorem dL_law_920 : decode cL_law 920 = .ok (.iconst 2, 1) := by decide +kernel
theorem dL_law_921 : decode cL_law 921 = .ok (.iadd, 1) := by decide +kernel
theorem dL_law_922 : decode cL_law 922 = .ok (.iaload, 1) := by decide +kernel
theorem dL_law_923 : decode cL_law 923 = .ok (.aload_n 0, 1) := by decide +kernel
theorem dL_law_924 : decode cL_law 924 = .ok (.iload_n 3, 1) := by decide +kernel
theorem dL_law_925 : decode cL_law 925 = .ok (.iconst 3, 1) := by decide +kernel
theorem dL_law_926 : decode cL_law 926 = .ok (.iadd, 1) := by decide +kernel
theorem dL_law_927 : decode cL_law 927 = .ok (.iaload, 1) := by decide +kernel
theorem dL_law_928 : decode cL_law 928 = .ok (.invokevirtual 129, 3) := by decide +kernel
theorem vL_law_928 : tg_VS mL_law 928 mX9_load 3 := ⟨okX9_load, ⟨129, dL_law_928, mlL_129⟩, insX9_load, selX9_load, parX9_load, rfl, rfl, Nat.le_of_ble_eq_true rfl, Nat.le_of_ble_eq_true rfl⟩
theorem dL_law_931 : decode cL_law 931 = .ok (.if_icmp .eq 65, 3) := by decide +kernel
theorem lw_893 (hK : ∀ wc wr, J wc wr → tg_G l mL_law 0 K kc ks 996 (lvL i) [] (jn wc wr)) (h : J wc wr) (hi : i + 4 < l.2.1) (hL : l.2.1 ≤ 2560) : tg_G l mL_law 0 K kc ks 893 (lvL i) [] (jn wc wr) := (lw_a1 dL_law_893 (lw_arg 1 (by decide) dL_law_894 dL_law_895 dL_law_896 dL_law_897 dL_law_898 hi hL (lw_arg 2 (by decide) dL_law_899 dL_law_900 dL_law_901 dL_law_902 dL_law_903 hi hL (lw_arg 3 (by decide) dL_law_904 dL_law_905 dL_law_906 dL_law_907 dL_law_908 hi hL (lw_c8 [l.2.2 (i + 1), l.2.2 (i + 2), l.2.2 (i + 3)] vL_law_909 (J_load h) h rfl rfl (Nat.le_of_ble_eq_true rfl) (fun wc1 x h1 h2 => (lw_a2 dL_law_912 (lw_arg 1 (by decide) dL_law_913 dL_law_914 dL_law_915 dL_law_916 dL_law_917 hi hL (lw_arg 2 (by decide) dL_law_918 dL_law_919 dL_law_920 dL_law_921 dL_law_922 hi hL (lw_arg 3 (by decide) dL_law_923 dL_law_924 dL_law_925 dL_law_926 dL_law_927 hi hL (lw_c9 [l.2.2 (i + 1), l.2.2 (i + 2), l.2.2 (i + 3)] vL_law_928 h h1 h2 rfl rfl (Nat.le_of_ble_eq_true rfl) (fun wr1 h3 => g_icmp_eq (tgt := 996) dL_law_931 rfl (fun _ => hK _ _ h3) (fun q => absurd rfl q)))))))))))))
theorem dL_law_936 : decode cL_law 936 = .ok (.aload_n 1, 1) := by decide +kernel
theorem dL_law_937 : decode cL_law 937 = .ok (.aload_n 0, 1) := by decide +kernel
theorem dL_law_938 : decode cL_law 938 = .ok (.iload_n 3, 1) := by decide +kernel
theorem dL_law_939 : decode cL_law 939 = .ok (.iconst 1, 1) := by decide +kernel
theorem dL_law_940 : decode cL_law 940 = .ok (.iadd, 1) := by decide +kernel
theorem dL_law_941 : decode cL_law 941 = .ok (.iaload, 1) := by decide +kernel
theorem dL_law_942 : decode cL_law 942 = .ok (.invokevirtual 130, 3) := by decide +kernel
theorem vL_law_942 : tg_VS mL_law 942 mX8_drop 1 := ⟨okX8_drop, ⟨130, dL_law_942, mlL_130⟩, insX8_drop, selX8_drop, parX8_drop, rfl, rfl, Nat.le_of_ble_eq_true rfl, Nat.le_of_ble_eq_true rfl⟩
theorem dL_law_945 : decode cL_law 945 = .ok (.aload_n 2, 1) := by decide +kernel
theorem dL_law_946 : decode cL_law 946 = .ok (.aload_n 0, 1) := by decide +kernel
theorem dL_law_947 : decode cL_law 947 = .ok (.iload_n 3, 1) := by decide +kernel
theorem dL_law_948 : decode cL_law 948 = .ok (.iconst 1, 1) := by decide +kernel
theorem dL_law_949 : decode cL_law 949 = .ok (.iadd, 1) := by decide +kernel
theorem dL_law_950 : decode cL_law 950 = .ok (.iaload, 1) := by decide +kernel
theorem dL_law_951 : decode cL_law 951 = .ok (.invokevirtual 133, 3) := by decide +kernel
theorem vL_law_951 : tg_VS mL_law 951 mX9_drop 1 := ⟨okX9_drop, ⟨133, dL_law_951, mlL_133⟩, insX9_drop, selX9_drop, parX9_drop, rfl, rfl, Nat.le_of_ble_eq_true rfl, Nat.le_of_ble_eq_true rfl⟩
theorem dL_law_954 : decode cL_law 954 = .ok (.if_icmp .eq 42, 3) := by decide +kernel
theorem lw_936 (hK : ∀ wc wr, J wc wr → tg_G l mL_law 0 K kc ks 996 (lvL i) [] (jn wc wr)) (h : J wc wr) (hi : i + 4 < l.2.1) (hL : l.2.1 ≤ 2560) : tg_G l mL_law 0 K kc ks 936 (lvL i) [] (jn wc wr) := (lw_a1 dL_law_936 (lw_arg 1 (by decide) dL_law_937 dL_law_938 dL_law_939 dL_law_940 dL_law_941 hi hL (lw_c8 [l.2.2 (i + 1)] vL_law_942 (J_drop h) h rfl rfl (Nat.le_of_ble_eq_true rfl) (fun wc1 x h1 h2 => (lw_a2 dL_law_945 (lw_arg 1 (by decide) dL_law_946 dL_law_947 dL_law_948 dL_law_949 dL_law_950 hi hL (lw_c9 [l.2.2 (i + 1)] vL_law_951 h h1 h2 rfl rfl (Nat.le_of_ble_eq_true rfl) (fun wr1 h3 => g_icmp_eq (tgt := 996) dL_law_954 rfl (fun _ => hK _ _ h3) (fun q => absurd rfl q)))))))))
theorem dL_law_959 : decode cL_law 959 = .ok (.aload_n 1, 1) := by decide +kernel
theorem dL_law_960 : decode cL_law 960 = .ok (.invokevirtual 134, 3) := by decide +kernel
theorem vL_law_960 : tg_VS mL_law 960 mX8_asked 0 := ⟨okX8_asked, ⟨134, dL_law_960, mlL_134⟩, insX8_asked, selX8_asked, parX8_asked, rfl, rfl, Nat.le_of_ble_eq_true rfl, Nat.le_of_ble_eq_true rfl⟩
theorem dL_law_963 : decode cL_law 963 = .ok (.aload_n 2, 1) := by decide +kernel
theorem dL_law_964 : decode cL_law 964 = .ok (.invokevirtual 138, 3) := by decide +kernel
theorem vL_law_964 : tg_VS mL_law 964 mX9_asked 0 := ⟨okX9_asked, ⟨138, dL_law_964, mlL_138⟩, insX9_asked, selX9_asked, parX9_asked, rfl, rfl, Nat.le_of_ble_eq_true rfl, Nat.le_of_ble_eq_true rfl⟩
theorem dL_law_967 : decode cL_law 967 = .ok (.lcmp, 1) := by decide +kernel
theorem dL_law_968 : decode cL_law 968 = .ok (.ifCond .eq 28, 3) := by decide +kernel
theorem lw_959 (hK : ∀ wc wr, J wc wr → tg_G l mL_law 0 K kc ks 996 (lvL i) [] (jn wc wr)) (h : J wc wr) (hi : i + 4 < l.2.1) (hL : l.2.1 ≤ 2560) : tg_G l mL_law 0 K kc ks 959 (lvL i) [] (jn wc wr) := by
  obtain ⟨e1, e2, ⟨fs, e3⟩, ⟨fs', e4⟩⟩ := J_len h
  refine lw_a1 dL_law_959 ?_
  refine tg_cV (rest := []) (As := []) (b := 0) iA vL_law_960 (J_asked h) rfl (jn_A e1) e3 rfl rfl (Nat.le_of_ble_eq_true rfl) (by decide) (by decide) (Nat.le_of_ble_eq_true rfl) (fun r w' q => q.1.trans e1.symm) ?_
  intro r w1 hq
  obtain ⟨h1, x, rfl, h2⟩ := hq
  rw [jn_putA e1 h1]
  refine lw_a2 (st := [.long x]) dL_law_963 ?_
  refine tg_cV (rest := [.long x]) (As := []) (b := 0) iB vL_law_964 h2 rfl (jn_B h1 e2) e4 rfl rfl (Nat.le_of_ble_eq_true rfl) (by decide) (by decide) (Nat.le_of_ble_eq_true rfl) (fun r w' q => (J_len q.2).2.1.trans e2.symm) ?_
  rintro r w2 ⟨rfl, h3⟩
  rw [jn_putB h1 e2 (J_len h3).2.1]
  show tg_G l mL_law 0 K kc ks 967 (lvL i) [.long x, .long x] (jn w1 w2)
  refine tg_go (M := mL_law) (a := 967) (T := ti_lcmp) (b := 968) (si_lcmp (M := mL_law) (pc := 967) dL_law_967) ?_
  show tg_G l mL_law 0 K kc ks 968 (lvL i) [.int (lg_cmp x x)] (jn w1 w2)
  refine g_if_eq (tgt := 996) (x := lg_cmp x x) (st := []) dL_law_968 rfl (fun _ => hK _ _ h3) (fun q => absurd (lg_cmp_self x) q)
theorem dL_law_973 : decode cL_law 973 = .ok (.aload_n 1, 1) := by decide +kernel
theorem dL_law_974 : decode cL_law 974 = .ok (.aload_n 0, 1) := by decide +kernel
theorem dL_law_975 : decode cL_law 975 = .ok (.iload_n 3, 1) := by decide +kernel
theorem dL_law_976 : decode cL_law 976 = .ok (.iconst 1, 1) := by decide +kernel
theorem dL_law_977 : decode cL_law 977 = .ok (.iadd, 1) := by decide +kernel
theorem dL_law_978 : decode cL_law 978 = .ok (.iaload, 1) := by decide +kernel
theorem dL_law_979 : decode cL_law 979 = .ok (.invokevirtual 139, 3) := by decide +kernel
theorem vL_law_979 : tg_VS mL_law 979 mX8_count 1 := ⟨okX8_count, ⟨139, dL_law_979, mlL_139⟩, insX8_count, selX8_count, parX8_count, rfl, rfl, Nat.le_of_ble_eq_true rfl, Nat.le_of_ble_eq_true rfl⟩
theorem dL_law_982 : decode cL_law 982 = .ok (.aload_n 2, 1) := by decide +kernel
theorem dL_law_983 : decode cL_law 983 = .ok (.aload_n 0, 1) := by decide +kernel
theorem dL_law_984 : decode cL_law 984 = .ok (.iload_n 3, 1) := by decide +kernel
theorem dL_law_985 : decode cL_law 985 = .ok (.iconst 1, 1) := by decide +kernel
theorem dL_law_986 : decode cL_law 986 = .ok (.iadd, 1) := by decide +kernel
theorem dL_law_987 : decode cL_law 987 = .ok (.iaload, 1) := by decide +kernel
theorem dL_law_988 : decode cL_law 988 = .ok (.invokevirtual 142, 3) := by decide +kernel
theorem vL_law_988 : tg_VS mL_law 988 mX9_count 1 := ⟨okX9_count, ⟨142, dL_law_988, mlL_142⟩, insX9_count, selX9_count, parX9_count, rfl, rfl, Nat.le_of_ble_eq_true rfl, Nat.le_of_ble_eq_true rfl⟩
theorem dL_law_991 : decode cL_law 991 = .ok (.if_icmp .eq 5, 3) := by decide +kernel
theorem lw_973 (hK : ∀ wc wr, J wc wr → tg_G l mL_law 0 K kc ks 996 (lvL i) [] (jn wc wr)) (h : J wc wr) (hi : i + 4 < l.2.1) (hL : l.2.1 ≤ 2560) : tg_G l mL_law 0 K kc ks 973 (lvL i) [] (jn wc wr) := (lw_a1 dL_law_973 (lw_arg 1 (by decide) dL_law_974 dL_law_975 dL_law_976 dL_law_977 dL_law_978 hi hL (lw_c8 [l.2.2 (i + 1)] vL_law_979 (J_count h) h rfl rfl (Nat.le_of_ble_eq_true rfl) (fun wc1 x h1 h2 => (lw_a2 dL_law_982 (lw_arg 1 (by decide) dL_law_983 dL_law_984 dL_law_985 dL_law_986 dL_law_987 hi hL (lw_c9 [l.2.2 (i + 1)] vL_law_988 h h1 h2 rfl rfl (Nat.le_of_ble_eq_true rfl) (fun wr1 h3 => g_icmp_eq (tgt := 996) dL_law_991 rfl (fun _ => hK _ _ h3) (fun q => absurd rfl q)))))))))
end LAWC
