/-! THE LAW: its cases, d -/
section LAWC
variable {l : tg_Ln} {K : Option Value → List va_E → Prop} {kc ks i : Nat} {wc wr : List va_E}
theorem dL_law_662 : decode cL_law 662 = .ok (.aload_n 1, 1) := by decide +kernel
theorem dL_law_663 : decode cL_law 663 = .ok (.invokevirtual 96, 3) := by decide +kernel
theorem vL_law_663 : tg_VS mL_law 663 mX8_key 0 := ⟨okX8_key, ⟨96, dL_law_663, mlL_96⟩, insX8_key, selX8_key, parX8_key, rfl, rfl, Nat.le_of_ble_eq_true rfl, Nat.le_of_ble_eq_true rfl⟩
theorem dL_law_666 : decode cL_law 666 = .ok (.aload_n 2, 1) := by decide +kernel
theorem dL_law_667 : decode cL_law 667 = .ok (.invokevirtual 99, 3) := by decide +kernel
theorem vL_law_667 : tg_VS mL_law 667 mX9_key 0 := ⟨okX9_key, ⟨99, dL_law_667, mlL_99⟩, insX9_key, selX9_key, parX9_key, rfl, rfl, Nat.le_of_ble_eq_true rfl, Nat.le_of_ble_eq_true rfl⟩
theorem dL_law_670 : decode cL_law 670 = .ok (.if_icmp .eq 326, 3) := by decide +kernel
theorem lw_662 (hK : ∀ wc wr, J wc wr → tg_G l mL_law 0 K kc ks 996 (lvL i) [] (jn wc wr)) (h : J wc wr) (hi : i + 4 < l.2.1) (hL : l.2.1 ≤ 2560) : tg_G l mL_law 0 K kc ks 662 (lvL i) [] (jn wc wr) := (lw_a1 dL_law_662 (lw_c8 [] vL_law_663 (J_key h) h rfl rfl (Nat.le_of_ble_eq_true rfl) (fun wc1 x h1 h2 => (lw_a2 dL_law_666 (lw_c9 [] vL_law_667 h h1 h2 rfl rfl (Nat.le_of_ble_eq_true rfl) (fun wr1 h3 => g_icmp_eq (tgt := 996) dL_law_670 rfl (fun _ => hK _ _ h3) (fun q => absurd rfl q)))))))
theorem dL_law_675 : decode cL_law 675 = .ok (.aload_n 1, 1) := by decide +kernel
theorem dL_law_676 : decode cL_law 676 = .ok (.aload_n 0, 1) := by decide +kernel
theorem dL_law_677 : decode cL_law 677 = .ok (.iload_n 3, 1) := by decide +kernel
theorem dL_law_678 : decode cL_law 678 = .ok (.iconst 1, 1) := by decide +kernel
theorem dL_law_679 : decode cL_law 679 = .ok (.iadd, 1) := by decide +kernel
theorem dL_law_680 : decode cL_law 680 = .ok (.iaload, 1) := by decide +kernel
theorem dL_law_681 : decode cL_law 681 = .ok (.aload_n 0, 1) := by decide +kernel
theorem dL_law_682 : decode cL_law 682 = .ok (.iload_n 3, 1) := by decide +kernel
theorem dL_law_683 : decode cL_law 683 = .ok (.iconst 2, 1) := by decide +kernel
theorem dL_law_684 : decode cL_law 684 = .ok (.iadd, 1) := by decide +kernel
theorem dL_law_685 : decode cL_law 685 = .ok (.iaload, 1) := by decide +kernel
theorem dL_law_686 : decode cL_law 686 = .ok (.invokevirtual 100, 3) := by decide +kernel
theorem vL_law_686 : tg_VS mL_law 686 mX8_rule 2 := ⟨okX8_rule, ⟨100, dL_law_686, mlL_100⟩, insX8_rule, selX8_rule, parX8_rule, rfl, rfl, Nat.le_of_ble_eq_true rfl, Nat.le_of_ble_eq_true rfl⟩
theorem dL_law_689 : decode cL_law 689 = .ok (.aload_n 2, 1) := by decide +kernel
theorem dL_law_690 : decode cL_law 690 = .ok (.aload_n 0, 1) := by decide +kernel
theorem dL_law_691 : decode cL_law 691 = .ok (.iload_n 3, 1) := by decide +kernel
theorem dL_law_692 : decode cL_law 692 = .ok (.iconst 1, 1) := by decide +kernel
theorem dL_law_693 : decode cL_law 693 = .ok (.iadd, 1) := by decide +kernel
theorem dL_law_694 : decode cL_law 694 = .ok (.iaload, 1) := by decide +kernel
theorem dL_law_695 : decode cL_law 695 = .ok (.aload_n 0, 1) := by decide +kernel
theorem dL_law_696 : decode cL_law 696 = .ok (.iload_n 3, 1) := by decide +kernel
theorem dL_law_697 : decode cL_law 697 = .ok (.iconst 2, 1) := by decide +kernel
theorem dL_law_698 : decode cL_law 698 = .ok (.iadd, 1) := by decide +kernel
theorem dL_law_699 : decode cL_law 699 = .ok (.iaload, 1) := by decide +kernel
theorem dL_law_700 : decode cL_law 700 = .ok (.invokevirtual 103, 3) := by decide +kernel
theorem vL_law_700 : tg_VS mL_law 700 mX9_rule 2 := ⟨okX9_rule, ⟨103, dL_law_700, mlL_103⟩, insX9_rule, selX9_rule, parX9_rule, rfl, rfl, Nat.le_of_ble_eq_true rfl, Nat.le_of_ble_eq_true rfl⟩
theorem dL_law_703 : decode cL_law 703 = .ok (.if_icmp .eq 293, 3) := by decide +kernel
theorem lw_675 (hK : ∀ wc wr, J wc wr → tg_G l mL_law 0 K kc ks 996 (lvL i) [] (jn wc wr)) (h : J wc wr) (hi : i + 4 < l.2.1) (hL : l.2.1 ≤ 2560) : tg_G l mL_law 0 K kc ks 675 (lvL i) [] (jn wc wr) := (lw_a1 dL_law_675 (lw_arg 1 (by decide) dL_law_676 dL_law_677 dL_law_678 dL_law_679 dL_law_680 hi hL (lw_arg 2 (by decide) dL_law_681 dL_law_682 dL_law_683 dL_law_684 dL_law_685 hi hL (lw_c8 [l.2.2 (i + 1), l.2.2 (i + 2)] vL_law_686 (J_rule h) h rfl rfl (Nat.le_of_ble_eq_true rfl) (fun wc1 x h1 h2 => (lw_a2 dL_law_689 (lw_arg 1 (by decide) dL_law_690 dL_law_691 dL_law_692 dL_law_693 dL_law_694 hi hL (lw_arg 2 (by decide) dL_law_695 dL_law_696 dL_law_697 dL_law_698 dL_law_699 hi hL (lw_c9 [l.2.2 (i + 1), l.2.2 (i + 2)] vL_law_700 h h1 h2 rfl rfl (Nat.le_of_ble_eq_true rfl) (fun wr1 h3 => g_icmp_eq (tgt := 996) dL_law_703 rfl (fun _ => hK _ _ h3) (fun q => absurd rfl q)))))))))))
theorem dL_law_708 : decode cL_law 708 = .ok (.aload_n 1, 1) := by decide +kernel
theorem dL_law_709 : decode cL_law 709 = .ok (.aload_n 0, 1) := by decide +kernel
theorem dL_law_710 : decode cL_law 710 = .ok (.iload_n 3, 1) := by decide +kernel
theorem dL_law_711 : decode cL_law 711 = .ok (.iconst 1, 1) := by decide +kernel
theorem dL_law_712 : decode cL_law 712 = .ok (.iadd, 1) := by decide +kernel
theorem dL_law_713 : decode cL_law 713 = .ok (.iaload, 1) := by decide +kernel
theorem dL_law_714 : decode cL_law 714 = .ok (.aload_n 0, 1) := by decide +kernel
theorem dL_law_715 : decode cL_law 715 = .ok (.iload_n 3, 1) := by decide +kernel
theorem dL_law_716 : decode cL_law 716 = .ok (.iconst 2, 1) := by decide +kernel
theorem dL_law_717 : decode cL_law 717 = .ok (.iadd, 1) := by decide +kernel
theorem dL_law_718 : decode cL_law 718 = .ok (.iaload, 1) := by decide +kernel
theorem dL_law_719 : decode cL_law 719 = .ok (.invokevirtual 104, 3) := by decide +kernel
theorem vL_law_719 : tg_VS mL_law 719 mX8_row 2 := ⟨okX8_row, ⟨104, dL_law_719, mlL_104⟩, insX8_row, selX8_row, parX8_row, rfl, rfl, Nat.le_of_ble_eq_true rfl, Nat.le_of_ble_eq_true rfl⟩
theorem dL_law_722 : decode cL_law 722 = .ok (.aload_n 2, 1) := by decide +kernel
theorem dL_law_723 : decode cL_law 723 = .ok (.aload_n 0, 1) := by decide +kernel
theorem dL_law_724 : decode cL_law 724 = .ok (.iload_n 3, 1) := by decide +kernel
theorem dL_law_725 : decode cL_law 725 = .ok (.iconst 1, 1) := by decide +kernel
theorem dL_law_726 : decode cL_law 726 = .ok (.iadd, 1) := by decide +kernel
theorem dL_law_727 : decode cL_law 727 = .ok (.iaload, 1) := by decide +kernel
theorem dL_law_728 : decode cL_law 728 = .ok (.aload_n 0, 1) := by decide +kernel
theorem dL_law_729 : decode cL_law 729 = .ok (.iload_n 3, 1) := by decide +kernel
theorem dL_law_730 : decode cL_law 730 = .ok (.iconst 2, 1) := by decide +kernel
theorem dL_law_731 : decode cL_law 731 = .ok (.iadd, 1) := by decide +kernel
theorem dL_law_732 : decode cL_law 732 = .ok (.iaload, 1) := by decide +kernel
theorem dL_law_733 : decode cL_law 733 = .ok (.invokevirtual 107, 3) := by decide +kernel
theorem vL_law_733 : tg_VS mL_law 733 mX9_row 2 := ⟨okX9_row, ⟨107, dL_law_733, mlL_107⟩, insX9_row, selX9_row, parX9_row, rfl, rfl, Nat.le_of_ble_eq_true rfl, Nat.le_of_ble_eq_true rfl⟩
theorem dL_law_736 : decode cL_law 736 = .ok (.if_icmp .eq 260, 3) := by decide +kernel
theorem lw_708 (hK : ∀ wc wr, J wc wr → tg_G l mL_law 0 K kc ks 996 (lvL i) [] (jn wc wr)) (h : J wc wr) (hi : i + 4 < l.2.1) (hL : l.2.1 ≤ 2560) : tg_G l mL_law 0 K kc ks 708 (lvL i) [] (jn wc wr) := (lw_a1 dL_law_708 (lw_arg 1 (by decide) dL_law_709 dL_law_710 dL_law_711 dL_law_712 dL_law_713 hi hL (lw_arg 2 (by decide) dL_law_714 dL_law_715 dL_law_716 dL_law_717 dL_law_718 hi hL (lw_c8 [l.2.2 (i + 1), l.2.2 (i + 2)] vL_law_719 (J_row h) h rfl rfl (Nat.le_of_ble_eq_true rfl) (fun wc1 x h1 h2 => (lw_a2 dL_law_722 (lw_arg 1 (by decide) dL_law_723 dL_law_724 dL_law_725 dL_law_726 dL_law_727 hi hL (lw_arg 2 (by decide) dL_law_728 dL_law_729 dL_law_730 dL_law_731 dL_law_732 hi hL (lw_c9 [l.2.2 (i + 1), l.2.2 (i + 2)] vL_law_733 h h1 h2 rfl rfl (Nat.le_of_ble_eq_true rfl) (fun wr1 h3 => g_icmp_eq (tgt := 996) dL_law_736 rfl (fun _ => hK _ _ h3) (fun q => absurd rfl q)))))))))))
theorem dL_law_741 : decode cL_law 741 = .ok (.aload_n 1, 1) := by decide +kernel
theorem dL_law_742 : decode cL_law 742 = .ok (.aload_n 0, 1) := by decide +kernel
theorem dL_law_743 : decode cL_law 743 = .ok (.iload_n 3, 1) := by decide +kernel
theorem dL_law_744 : decode cL_law 744 = .ok (.iconst 1, 1) := by decide +kernel
theorem dL_law_745 : decode cL_law 745 = .ok (.iadd, 1) := by decide +kernel
theorem dL_law_746 : decode cL_law 746 = .ok (.iaload, 1) := by decide +kernel
theorem dL_law_747 : decode cL_law 747 = .ok (.aload_n 0, 1) := by decide +kernel
theorem dL_law_748 : decode cL_law 748 = .ok (.iload_n 3, 1) := by decide +kernel
theorem dL_law_749 : decode cL_law 749 = .ok (.iconst 2, 1) := by decide +kernel
theorem dL_law_750 : decode cL_law 750 = .ok (.iadd, 1) := by decide +kernel
theorem dL_law_751 : decode cL_law 751 = .ok (.iaload, 1) := by decide +kernel
theorem dL_law_752 : decode cL_law 752 = .ok (.aload_n 0, 1) := by decide +kernel
theorem dL_law_753 : decode cL_law 753 = .ok (.iload_n 3, 1) := by decide +kernel
theorem dL_law_754 : decode cL_law 754 = .ok (.iconst 3, 1) := by decide +kernel
theorem dL_law_755 : decode cL_law 755 = .ok (.iadd, 1) := by decide +kernel
theorem dL_law_756 : decode cL_law 756 = .ok (.iaload, 1) := by decide +kernel
theorem dL_law_757 : decode cL_law 757 = .ok (.invokevirtual 108, 3) := by decide +kernel
theorem vL_law_757 : tg_VS mL_law 757 mX8_set 3 := ⟨okX8_set, ⟨108, dL_law_757, mlL_108⟩, insX8_set, selX8_set, parX8_set, rfl, rfl, Nat.le_of_ble_eq_true rfl, Nat.le_of_ble_eq_true rfl⟩
theorem dL_law_760 : decode cL_law 760 = .ok (.aload_n 2, 1) := by decide +kernel
theorem dL_law_761 : decode cL_law 761 = .ok (.aload_n 0, 1) := by decide +kernel
theorem dL_law_762 : decode cL_law 762 = .ok (.iload_n 3, 1) := by decide +kernel
theorem dL_law_763 : decode cL_law 763 = .ok (.iconst 1, 1) := by decide +kernel
theorem dL_law_764 : decode cL_law 764 = .ok (.iadd, 1) := by decide +kernel
theorem dL_law_765 : decode cL_law 765 = .ok (.iaload, 1) := by decide +kernel
theorem dL_law_766 : decode cL_law 766 = .ok (.aload_n 0, 1) := by decide +kernel
theorem dL_law_767 : decode cL_law 767 = .ok (.iload_n 3, 1) := by decide +kernel
theorem dL_law_768 : decode cL_law 768 = .ok (.iconst 2, 1) := by decide +kernel
theorem dL_law_769 : decode cL_law 769 = .ok (.iadd, 1) := by decide +kernel
theorem dL_law_770 : decode cL_law 770 = .ok (.iaload, 1) := by decide +kernel
theorem dL_law_771 : decode cL_law 771 = .ok (.aload_n 0, 1) := by decide +kernel
theorem dL_law_772 : decode cL_law 772 = .ok (.iload_n 3, 1) := by decide +kernel
theorem dL_law_773 : decode cL_law 773 = .ok (.iconst 3, 1) := by decide +kernel
theorem dL_law_774 : decode cL_law 774 = .ok (.iadd, 1) := by decide +kernel
theorem dL_law_775 : decode cL_law 775 = .ok (.iaload, 1) := by decide +kernel
theorem dL_law_776 : decode cL_law 776 = .ok (.invokevirtual 112, 3) := by decide +kernel
theorem vL_law_776 : tg_VS mL_law 776 mX9_set 3 := ⟨okX9_set, ⟨112, dL_law_776, mlL_112⟩, insX9_set, selX9_set, parX9_set, rfl, rfl, Nat.le_of_ble_eq_true rfl, Nat.le_of_ble_eq_true rfl⟩
theorem dL_law_779 : decode cL_law 779 = .ok (.if_icmp .eq 217, 3) := by decide +kernel
theorem lw_741 (hK : ∀ wc wr, J wc wr → tg_G l mL_law 0 K kc ks 996 (lvL i) [] (jn wc wr)) (h : J wc wr) (hi : i + 4 < l.2.1) (hL : l.2.1 ≤ 2560) : tg_G l mL_law 0 K kc ks 741 (lvL i) [] (jn wc wr) := (lw_a1 dL_law_741 (lw_arg 1 (by decide) dL_law_742 dL_law_743 dL_law_744 dL_law_745 dL_law_746 hi hL (lw_arg 2 (by decide) dL_law_747 dL_law_748 dL_law_749 dL_law_750 dL_law_751 hi hL (lw_arg 3 (by decide) dL_law_752 dL_law_753 dL_law_754 dL_law_755 dL_law_756 hi hL (lw_c8 [l.2.2 (i + 1), l.2.2 (i + 2), l.2.2 (i + 3)] vL_law_757 (J_set h) h rfl rfl (Nat.le_of_ble_eq_true rfl) (fun wc1 x h1 h2 => (lw_a2 dL_law_760 (lw_arg 1 (by decide) dL_law_761 dL_law_762 dL_law_763 dL_law_764 dL_law_765 hi hL (lw_arg 2 (by decide) dL_law_766 dL_law_767 dL_law_768 dL_law_769 dL_law_770 hi hL (lw_arg 3 (by decide) dL_law_771 dL_law_772 dL_law_773 dL_law_774 dL_law_775 hi hL (lw_c9 [l.2.2 (i + 1), l.2.2 (i + 2), l.2.2 (i + 3)] vL_law_776 h h1 h2 rfl rfl (Nat.le_of_ble_eq_true rfl) (fun wr1 h3 => g_icmp_eq (tgt := 996) dL_law_779 rfl (fun _ => hK _ _ h3) (fun q => absurd rfl q)))))))))))))
theorem dL_law_784 : decode cL_law 784 = .ok (.aload_n 1, 1) := by decide +kernel
theorem dL_law_785 : decode cL_law 785 = .ok (.aload_n 0, 1) := by decide +kernel
theorem dL_law_786 : decode cL_law 786 = .ok (.iload_n 3, 1) := by decide +kernel
theorem dL_law_787 : decode cL_law 787 = .ok (.iconst 1, 1) := by decide +kernel
theorem dL_law_788 : decode cL_law 788 = .ok (.iadd, 1) := by decide +kernel
theorem dL_law_789 : decode cL_law 789 = .ok (.iaload, 1) := by decide +kernel
theorem dL_law_790 : decode cL_law 790 = .ok (.aload_n 0, 1) := by decide +kernel
theorem dL_law_791 : decode cL_law 791 = .ok (.iload_n 3, 1) := by decide +kernel
theorem dL_law_792 : decode cL_law 792 = .ok (.iconst 2, 1) := by decide +kernel
theorem dL_law_793 : decode cL_law 793 = .ok (.iadd, 1) := by decide +kernel
theorem dL_law_794 : decode cL_law 794 = .ok (.iaload, 1) := by decide +kernel
theorem dL_law_795 : decode cL_law 795 = .ok (.aload_n 0, 1) := by decide +kernel
theorem dL_law_796 : decode cL_law 796 = .ok (.iload_n 3, 1) := by decide +kernel
theorem dL_law_797 : decode cL_law 797 = .ok (.iconst 3, 1) := by decide +kernel
theorem dL_law_798 : decode cL_law 798 = .ok (.iadd, 1) := by decide +kernel
theorem dL_law_799 : decode cL_law 799 = .ok (.iaload, 1) := by decide +kernel
theorem dL_law_800 : decode cL_law 800 = .ok (.aload_n 0, 1) := by decide +kernel
theorem dL_law_801 : decode cL_law 801 = .ok (.iload_n 3, 1) := by decide +kernel
theorem dL_law_802 : decode cL_law 802 = .ok (.iconst 4, 1) := by decide +kernel
theorem dL_law_803 : decode cL_law 803 = .ok (.iadd, 1) := by decide +kernel
theorem dL_law_804 : decode cL_law 804 = .ok (.iaload, 1) := by decide +kernel
theorem dL_law_805 : decode cL_law 805 = .ok (.invokevirtual 113, 3) := by decide +kernel
theorem vL_law_805 : tg_VS mL_law 805 mX8_work 4 := ⟨okX8_work, ⟨113, dL_law_805, mlL_113⟩, insX8_work, selX8_work, parX8_work, rfl, rfl, Nat.le_of_ble_eq_true rfl, Nat.le_of_ble_eq_true rfl⟩
theorem dL_law_808 : decode cL_law 808 = .ok (.aload_n 2, 1) := by decide +kernel
theorem dL_law_809 : decode cL_law 809 = .ok (.aload_n 0, 1) := by decide +kernel
theorem dL_law_810 : decode cL_law 810 = .ok (.iload_n 3, 1) := by decide +kernel
theorem dL_law_811 : decode cL_law 811 = .ok (.iconst 1, 1) := by decide +kernel
theorem dL_law_812 : decode cL_law 812 = .ok (.iadd, 1) := by decide +kernel
theorem dL_law_813 : decode cL_law 813 = .ok (.iaload, 1) := by decide +kernel
theorem dL_law_814 : decode cL_law 814 = .ok (.aload_n 0, 1) := by decide +kernel
theorem dL_law_815 : decode cL_law 815 = .ok (.iload_n 3, 1) := by decide +kernel
theorem dL_law_816 : decode cL_law 816 = .ok (.iconst 2, 1) := by decide +kernel
theorem dL_law_817 : decode cL_law 817 = .ok (.iadd, 1) := by decide +kernel
theorem dL_law_818 : decode cL_law 818 = .ok (.iaload, 1) := by decide +kernel
theorem dL_law_819 : decode cL_law 819 = .ok (.aload_n 0, 1) := by decide +kernel
theorem dL_law_820 : decode cL_law 820 = .ok (.iload_n 3, 1) := by decide +kernel
theorem dL_law_821 : decode cL_law 821 = .ok (.iconst 3, 1) := by decide +kernel
theorem dL_law_822 : decode cL_law 822 = .ok (.iadd, 1) := by decide +kernel
theorem dL_law_823 : decode cL_law 823 = .ok (.iaload, 1) := by decide +kernel
theorem dL_law_824 : decode cL_law 824 = .ok (.aload_n 0, 1) := by decide +kernel
theorem dL_law_825 : decode cL_law 825 = .ok (.iload_n 3, 1) := by decide +kernel
theorem dL_law_826 : decode cL_law 826 = .ok (.iconst 4, 1) := by decide +kernel
theorem dL_law_827 : decode cL_law 827 = .ok (.iadd, 1) := by decide +kernel
theorem dL_law_828 : decode cL_law 828 = .ok (.iaload, 1) := by decide +kernel
theorem dL_law_829 : decode cL_law 829 = .ok (.invokevirtual 117, 3) := by decide +kernel
theorem vL_law_829 : tg_VS mL_law 829 mX9_work 4 := ⟨okX9_work, ⟨117, dL_law_829, mlL_117⟩, insX9_work, selX9_work, parX9_work, rfl, rfl, Nat.le_of_ble_eq_true rfl, Nat.le_of_ble_eq_true rfl⟩
theorem dL_law_832 : decode cL_law 832 = .ok (.if_icmp .eq 164, 3) := by decide +kernel
theorem lw_784 (hK : ∀ wc wr, J wc wr → tg_G l mL_law 0 K kc ks 996 (lvL i) [] (jn wc wr)) (h : J wc wr) (hi : i + 4 < l.2.1) (hL : l.2.1 ≤ 2560) : tg_G l mL_law 0 K kc ks 784 (lvL i) [] (jn wc wr) := (lw_a1 dL_law_784 (lw_arg 1 (by decide) dL_law_785 dL_law_786 dL_law_787 dL_law_788 dL_law_789 hi hL (lw_arg 2 (by decide) dL_law_790 dL_law_791 dL_law_792 dL_law_793 dL_law_794 hi hL (lw_arg 3 (by decide) dL_law_795 dL_law_796 dL_law_797 dL_law_798 dL_law_799 hi hL (lw_arg 4 (by decide) dL_law_800 dL_law_801 dL_law_802 dL_law_803 dL_law_804 hi hL (lw_c8 [l.2.2 (i + 1), l.2.2 (i + 2), l.2.2 (i + 3), l.2.2 (i + 4)] vL_law_805 (J_work h) h rfl rfl (Nat.le_of_ble_eq_true rfl) (fun wc1 x h1 h2 => (lw_a2 dL_law_808 (lw_arg 1 (by decide) dL_law_809 dL_law_810 dL_law_811 dL_law_812 dL_law_813 hi hL (lw_arg 2 (by decide) dL_law_814 dL_law_815 dL_law_816 dL_law_817 dL_law_818 hi hL (lw_arg 3 (by decide) dL_law_819 dL_law_820 dL_law_821 dL_law_822 dL_law_823 hi hL (lw_arg 4 (by decide) dL_law_824 dL_law_825 dL_law_826 dL_law_827 dL_law_828 hi hL (lw_c9 [l.2.2 (i + 1), l.2.2 (i + 2), l.2.2 (i + 3), l.2.2 (i + 4)] vL_law_829 h h1 h2 rfl rfl (Nat.le_of_ble_eq_true rfl) (fun wr1 h3 => g_icmp_eq (tgt := 996) dL_law_832 rfl (fun _ => hK _ _ h3) (fun q => absurd rfl q)))))))))))))))
end LAWC
