theorem la_filled {l : Launch} {G : Gx} {b L : Nat} {xs : Nat → Int32} {i : Nat} {mm : Mm} (hi : i + 6 ≤ L) (hL : L ≤ 384) (hI : Iv mm) (kend : ∀ m', Iv m' → PW G (KL l G b L xs) 1132 (lvL G b i) [] m') : PW G (KL l G b L xs) 654 (lvL G b i) [] mm := by
  obtain ⟨r, m1, m2, e1, e2, hI2⟩ := hI.step sp_filled
  refine pw_aload_n (i := 1) 2 rfl rfl 655 dL_law_654 rfl ?_
  refine pw_callVi 658 dL_law_655 rfl [] 0 ⟨gL_law_X6_filled, rfl, sgV_X6_filled, ⟨Nat.le_of_ble_eq_true rfl, Nat.le_of_ble_eq_true rfl⟩, ⟨Nat.le_of_ble_eq_true rfl, Nat.le_of_ble_eq_true rfl⟩⟩ ly_0 (by decide) la_0 rfl (k_X6_filled e1) rfl rfl (Nat.le_of_ble_eq_true rfl) ?_
  refine pw_aload_n (i := 2) 1 rfl rfl 659 dL_law_658 rfl ?_
  refine pw_callVi 662 dL_law_659 rfl [] 0 ⟨gL_law_X7_filled, rfl, sgV_X7_filled, ⟨Nat.le_of_ble_eq_true rfl, Nat.le_of_ble_eq_true rfl⟩, ⟨Nat.le_of_ble_eq_true rfl, Nat.le_of_ble_eq_true rfl⟩⟩ ly_298 (by decide) la_298 rfl (k_X7_filled e2) rfl rfl (Nat.le_of_ble_eq_true rfl) ?_
  exact pw_icmp_eq 1132 665 dL_law_662 (by decide) rfl (fun _ => kend _ hI2) (fun h => absurd rfl h)
theorem la_dry {l : Launch} {G : Gx} {b L : Nat} {xs : Nat → Int32} {i : Nat} {mm : Mm} (hi : i + 6 ≤ L) (hL : L ≤ 384) (hI : Iv mm) (kend : ∀ m', Iv m' → PW G (KL l G b L xs) 1132 (lvL G b i) [] m') : PW G (KL l G b L xs) 667 (lvL G b i) [] mm := by
  obtain ⟨r, m1, m2, e1, e2, hI2⟩ := hI.step (sp_dry (xs (i + 1)))
  refine pw_aload_n (i := 1) 2 rfl rfl 668 dL_law_667 rfl ?_
  refine pl_arg (i := i) 1 673 dL_law_668 dL_law_669 dL_law_670 rfl dL_law_671 dL_law_672 rfl (by omega) hL ?_
  refine pw_callVi 676 dL_law_673 rfl [.int (xs (i + 1))] 1 ⟨gL_law_X6_dry, rfl, sgV_X6_dry, ⟨Nat.le_of_ble_eq_true rfl, Nat.le_of_ble_eq_true rfl⟩, ⟨Nat.le_of_ble_eq_true rfl, Nat.le_of_ble_eq_true rfl⟩⟩ ly_0 (by decide) la_0 rfl (k_X6_dry e1) rfl rfl (Nat.le_of_ble_eq_true rfl) ?_
  refine pw_aload_n (i := 2) 1 rfl rfl 677 dL_law_676 rfl ?_
  refine pl_arg (i := i) 1 682 dL_law_677 dL_law_678 dL_law_679 rfl dL_law_680 dL_law_681 rfl (by omega) hL ?_
  refine pw_callVi 685 dL_law_682 rfl [.int (xs (i + 1))] 1 ⟨gL_law_X7_dry, rfl, sgV_X7_dry, ⟨Nat.le_of_ble_eq_true rfl, Nat.le_of_ble_eq_true rfl⟩, ⟨Nat.le_of_ble_eq_true rfl, Nat.le_of_ble_eq_true rfl⟩⟩ ly_298 (by decide) la_298 rfl (k_X7_dry e2) rfl rfl (Nat.le_of_ble_eq_true rfl) ?_
  exact pw_icmp_eq 1132 688 dL_law_685 (by decide) rfl (fun _ => kend _ hI2) (fun h => absurd rfl h)
theorem la_hiring {l : Launch} {G : Gx} {b L : Nat} {xs : Nat → Int32} {i : Nat} {mm : Mm} (hi : i + 6 ≤ L) (hL : L ≤ 384) (hI : Iv mm) (kend : ∀ m', Iv m' → PW G (KL l G b L xs) 1132 (lvL G b i) [] m') : PW G (KL l G b L xs) 690 (lvL G b i) [] mm := by
  obtain ⟨r, m1, m2, e1, e2, hI2⟩ := hI.step (sp_hiring (xs (i + 1)) (xs (i + 2)))
  refine pw_aload_n (i := 1) 2 rfl rfl 691 dL_law_690 rfl ?_
  refine pl_arg (i := i) 1 696 dL_law_691 dL_law_692 dL_law_693 rfl dL_law_694 dL_law_695 rfl (by omega) hL ?_
  refine pl_arg (i := i) 2 701 dL_law_696 dL_law_697 dL_law_698 rfl dL_law_699 dL_law_700 rfl (by omega) hL ?_
  refine pw_callVi 704 dL_law_701 rfl [.int (xs (i + 1)), .int (xs (i + 2))] 2 ⟨gL_law_X6_hiring, rfl, sgV_X6_hiring, ⟨Nat.le_of_ble_eq_true rfl, Nat.le_of_ble_eq_true rfl⟩, ⟨Nat.le_of_ble_eq_true rfl, Nat.le_of_ble_eq_true rfl⟩⟩ ly_0 (by decide) la_0 rfl (k_X6_hiring e1) rfl rfl (Nat.le_of_ble_eq_true rfl) ?_
  refine pw_aload_n (i := 2) 1 rfl rfl 705 dL_law_704 rfl ?_
  refine pl_arg (i := i) 1 710 dL_law_705 dL_law_706 dL_law_707 rfl dL_law_708 dL_law_709 rfl (by omega) hL ?_
  refine pl_arg (i := i) 2 715 dL_law_710 dL_law_711 dL_law_712 rfl dL_law_713 dL_law_714 rfl (by omega) hL ?_
  refine pw_callVi 718 dL_law_715 rfl [.int (xs (i + 1)), .int (xs (i + 2))] 2 ⟨gL_law_X7_hiring, rfl, sgV_X7_hiring, ⟨Nat.le_of_ble_eq_true rfl, Nat.le_of_ble_eq_true rfl⟩, ⟨Nat.le_of_ble_eq_true rfl, Nat.le_of_ble_eq_true rfl⟩⟩ ly_298 (by decide) la_298 rfl (k_X7_hiring e2) rfl rfl (Nat.le_of_ble_eq_true rfl) ?_
  exact pw_icmp_eq 1132 721 dL_law_718 (by decide) rfl (fun _ => kend _ hI2) (fun h => absurd rfl h)
theorem la_order {l : Launch} {G : Gx} {b L : Nat} {xs : Nat → Int32} {i : Nat} {mm : Mm} (hi : i + 6 ≤ L) (hL : L ≤ 384) (hI : Iv mm) (kend : ∀ m', Iv m' → PW G (KL l G b L xs) 1132 (lvL G b i) [] m') : PW G (KL l G b L xs) 723 (lvL G b i) [] mm := by
  obtain ⟨r, m1, m2, e1, e2, hI2⟩ := hI.step (sp_order (xs (i + 1)) (xs (i + 2)))
  refine pw_aload_n (i := 1) 2 rfl rfl 724 dL_law_723 rfl ?_
  refine pl_arg (i := i) 1 729 dL_law_724 dL_law_725 dL_law_726 rfl dL_law_727 dL_law_728 rfl (by omega) hL ?_
  refine pl_arg (i := i) 2 734 dL_law_729 dL_law_730 dL_law_731 rfl dL_law_732 dL_law_733 rfl (by omega) hL ?_
  refine pw_callVi 737 dL_law_734 rfl [.int (xs (i + 1)), .int (xs (i + 2))] 2 ⟨gL_law_X6_order, rfl, sgV_X6_order, ⟨Nat.le_of_ble_eq_true rfl, Nat.le_of_ble_eq_true rfl⟩, ⟨Nat.le_of_ble_eq_true rfl, Nat.le_of_ble_eq_true rfl⟩⟩ ly_0 (by decide) la_0 rfl (k_X6_order e1) rfl rfl (Nat.le_of_ble_eq_true rfl) ?_
  refine pw_aload_n (i := 2) 1 rfl rfl 738 dL_law_737 rfl ?_
  refine pl_arg (i := i) 1 743 dL_law_738 dL_law_739 dL_law_740 rfl dL_law_741 dL_law_742 rfl (by omega) hL ?_
  refine pl_arg (i := i) 2 748 dL_law_743 dL_law_744 dL_law_745 rfl dL_law_746 dL_law_747 rfl (by omega) hL ?_
  refine pw_callVi 751 dL_law_748 rfl [.int (xs (i + 1)), .int (xs (i + 2))] 2 ⟨gL_law_X7_order, rfl, sgV_X7_order, ⟨Nat.le_of_ble_eq_true rfl, Nat.le_of_ble_eq_true rfl⟩, ⟨Nat.le_of_ble_eq_true rfl, Nat.le_of_ble_eq_true rfl⟩⟩ ly_298 (by decide) la_298 rfl (k_X7_order e2) rfl rfl (Nat.le_of_ble_eq_true rfl) ?_
  exact pw_icmp_eq 1132 754 dL_law_751 (by decide) rfl (fun _ => kend _ hI2) (fun h => absurd rfl h)
theorem la_change {l : Launch} {G : Gx} {b L : Nat} {xs : Nat → Int32} {i : Nat} {mm : Mm} (hi : i + 6 ≤ L) (hL : L ≤ 384) (hI : Iv mm) (kend : ∀ m', Iv m' → PW G (KL l G b L xs) 1132 (lvL G b i) [] m') : PW G (KL l G b L xs) 756 (lvL G b i) [] mm := by
  obtain ⟨r, m1, m2, e1, e2, hI2⟩ := hI.step (sp_change (xs (i + 1)) (xs (i + 2)))
  refine pw_aload_n (i := 1) 2 rfl rfl 757 dL_law_756 rfl ?_
  refine pl_arg (i := i) 1 762 dL_law_757 dL_law_758 dL_law_759 rfl dL_law_760 dL_law_761 rfl (by omega) hL ?_
  refine pl_arg (i := i) 2 767 dL_law_762 dL_law_763 dL_law_764 rfl dL_law_765 dL_law_766 rfl (by omega) hL ?_
  refine pw_callVi 770 dL_law_767 rfl [.int (xs (i + 1)), .int (xs (i + 2))] 2 ⟨gL_law_X6_change, rfl, sgV_X6_change, ⟨Nat.le_of_ble_eq_true rfl, Nat.le_of_ble_eq_true rfl⟩, ⟨Nat.le_of_ble_eq_true rfl, Nat.le_of_ble_eq_true rfl⟩⟩ ly_0 (by decide) la_0 rfl (k_X6_change e1) rfl rfl (Nat.le_of_ble_eq_true rfl) ?_
  refine pw_aload_n (i := 2) 1 rfl rfl 771 dL_law_770 rfl ?_
  refine pl_arg (i := i) 1 776 dL_law_771 dL_law_772 dL_law_773 rfl dL_law_774 dL_law_775 rfl (by omega) hL ?_
  refine pl_arg (i := i) 2 781 dL_law_776 dL_law_777 dL_law_778 rfl dL_law_779 dL_law_780 rfl (by omega) hL ?_
  refine pw_callVi 784 dL_law_781 rfl [.int (xs (i + 1)), .int (xs (i + 2))] 2 ⟨gL_law_X7_change, rfl, sgV_X7_change, ⟨Nat.le_of_ble_eq_true rfl, Nat.le_of_ble_eq_true rfl⟩, ⟨Nat.le_of_ble_eq_true rfl, Nat.le_of_ble_eq_true rfl⟩⟩ ly_298 (by decide) la_298 rfl (k_X7_change e2) rfl rfl (Nat.le_of_ble_eq_true rfl) ?_
  exact pw_icmp_eq 1132 787 dL_law_784 (by decide) rfl (fun _ => kend _ hI2) (fun h => absurd rfl h)
theorem la_fits {l : Launch} {G : Gx} {b L : Nat} {xs : Nat → Int32} {i : Nat} {mm : Mm} (hi : i + 6 ≤ L) (hL : L ≤ 384) (hI : Iv mm) (kend : ∀ m', Iv m' → PW G (KL l G b L xs) 1132 (lvL G b i) [] m') : PW G (KL l G b L xs) 789 (lvL G b i) [] mm := by
  obtain ⟨r, m1, m2, e1, e2, hI2⟩ := hI.step (sp_fits (xs (i + 1)) (xs (i + 2)) (xs (i + 3)) (xs (i + 4)) (xs (i + 5)))
  refine pw_aload_n (i := 1) 2 rfl rfl 790 dL_law_789 rfl ?_
  refine pl_arg (i := i) 1 795 dL_law_790 dL_law_791 dL_law_792 rfl dL_law_793 dL_law_794 rfl (by omega) hL ?_
  refine pl_arg (i := i) 2 800 dL_law_795 dL_law_796 dL_law_797 rfl dL_law_798 dL_law_799 rfl (by omega) hL ?_
  refine pl_arg (i := i) 3 805 dL_law_800 dL_law_801 dL_law_802 rfl dL_law_803 dL_law_804 rfl (by omega) hL ?_
  refine pl_arg (i := i) 4 810 dL_law_805 dL_law_806 dL_law_807 rfl dL_law_808 dL_law_809 rfl (by omega) hL ?_
  refine pl_arg (i := i) 5 815 dL_law_810 dL_law_811 dL_law_812 rfl dL_law_813 dL_law_814 rfl (by omega) hL ?_
  refine pw_callVi 818 dL_law_815 rfl [.int (xs (i + 1)), .int (xs (i + 2)), .int (xs (i + 3)), .int (xs (i + 4)), .int (xs (i + 5))] 5 ⟨gL_law_X6_fits, rfl, sgV_X6_fits, ⟨Nat.le_of_ble_eq_true rfl, Nat.le_of_ble_eq_true rfl⟩, ⟨Nat.le_of_ble_eq_true rfl, Nat.le_of_ble_eq_true rfl⟩⟩ ly_0 (by decide) la_0 rfl (k_X6_fits e1) rfl rfl (Nat.le_of_ble_eq_true rfl) ?_
  refine pw_aload_n (i := 2) 1 rfl rfl 819 dL_law_818 rfl ?_
  refine pl_arg (i := i) 1 824 dL_law_819 dL_law_820 dL_law_821 rfl dL_law_822 dL_law_823 rfl (by omega) hL ?_
  refine pl_arg (i := i) 2 829 dL_law_824 dL_law_825 dL_law_826 rfl dL_law_827 dL_law_828 rfl (by omega) hL ?_
  refine pl_arg (i := i) 3 834 dL_law_829 dL_law_830 dL_law_831 rfl dL_law_832 dL_law_833 rfl (by omega) hL ?_
  refine pl_arg (i := i) 4 839 dL_law_834 dL_law_835 dL_law_836 rfl dL_law_837 dL_law_838 rfl (by omega) hL ?_
  refine pl_arg (i := i) 5 844 dL_law_839 dL_law_840 dL_law_841 rfl dL_law_842 dL_law_843 rfl (by omega) hL ?_
  refine pw_callVi 847 dL_law_844 rfl [.int (xs (i + 1)), .int (xs (i + 2)), .int (xs (i + 3)), .int (xs (i + 4)), .int (xs (i + 5))] 5 ⟨gL_law_X7_fits, rfl, sgV_X7_fits, ⟨Nat.le_of_ble_eq_true rfl, Nat.le_of_ble_eq_true rfl⟩, ⟨Nat.le_of_ble_eq_true rfl, Nat.le_of_ble_eq_true rfl⟩⟩ ly_298 (by decide) la_298 rfl (k_X7_fits e2) rfl rfl (Nat.le_of_ble_eq_true rfl) ?_
  exact pw_icmp_eq 1132 850 dL_law_847 (by decide) rfl (fun _ => kend _ hI2) (fun h => absurd rfl h)
theorem la_away {l : Launch} {G : Gx} {b L : Nat} {xs : Nat → Int32} {i : Nat} {mm : Mm} (hi : i + 6 ≤ L) (hL : L ≤ 384) (hI : Iv mm) (kend : ∀ m', Iv m' → PW G (KL l G b L xs) 1132 (lvL G b i) [] m') : PW G (KL l G b L xs) 852 (lvL G b i) [] mm := by
  obtain ⟨r, m1, m2, e1, e2, hI2⟩ := hI.step (sp_away (xs (i + 1)) (xs (i + 2)) (xs (i + 3)))
  refine pw_aload_n (i := 1) 2 rfl rfl 853 dL_law_852 rfl ?_
  refine pl_arg (i := i) 1 858 dL_law_853 dL_law_854 dL_law_855 rfl dL_law_856 dL_law_857 rfl (by omega) hL ?_
  refine pl_arg (i := i) 2 863 dL_law_858 dL_law_859 dL_law_860 rfl dL_law_861 dL_law_862 rfl (by omega) hL ?_
  refine pl_arg (i := i) 3 868 dL_law_863 dL_law_864 dL_law_865 rfl dL_law_866 dL_law_867 rfl (by omega) hL ?_
  refine pw_callVi 871 dL_law_868 rfl [.int (xs (i + 1)), .int (xs (i + 2)), .int (xs (i + 3))] 3 ⟨gL_law_X6_away, rfl, sgV_X6_away, ⟨Nat.le_of_ble_eq_true rfl, Nat.le_of_ble_eq_true rfl⟩, ⟨Nat.le_of_ble_eq_true rfl, Nat.le_of_ble_eq_true rfl⟩⟩ ly_0 (by decide) la_0 rfl (k_X6_away e1) rfl rfl (Nat.le_of_ble_eq_true rfl) ?_
  refine pw_aload_n (i := 2) 1 rfl rfl 872 dL_law_871 rfl ?_
  refine pl_arg (i := i) 1 877 dL_law_872 dL_law_873 dL_law_874 rfl dL_law_875 dL_law_876 rfl (by omega) hL ?_
  refine pl_arg (i := i) 2 882 dL_law_877 dL_law_878 dL_law_879 rfl dL_law_880 dL_law_881 rfl (by omega) hL ?_
  refine pl_arg (i := i) 3 887 dL_law_882 dL_law_883 dL_law_884 rfl dL_law_885 dL_law_886 rfl (by omega) hL ?_
  refine pw_callVi 890 dL_law_887 rfl [.int (xs (i + 1)), .int (xs (i + 2)), .int (xs (i + 3))] 3 ⟨gL_law_X7_away, rfl, sgV_X7_away, ⟨Nat.le_of_ble_eq_true rfl, Nat.le_of_ble_eq_true rfl⟩, ⟨Nat.le_of_ble_eq_true rfl, Nat.le_of_ble_eq_true rfl⟩⟩ ly_298 (by decide) la_298 rfl (k_X7_away e2) rfl rfl (Nat.le_of_ble_eq_true rfl) ?_
  exact pw_icmp_eq 1132 893 dL_law_890 (by decide) rfl (fun _ => kend _ hI2) (fun h => absurd rfl h)
theorem la_drawn {l : Launch} {G : Gx} {b L : Nat} {xs : Nat → Int32} {i : Nat} {mm : Mm} (hi : i + 6 ≤ L) (hL : L ≤ 384) (hI : Iv mm) (kend : ∀ m', Iv m' → PW G (KL l G b L xs) 1132 (lvL G b i) [] m') : PW G (KL l G b L xs) 895 (lvL G b i) [] mm := by
  obtain ⟨r, m1, m2, e1, e2, hI2⟩ := hI.step (sp_drawn (xs (i + 1)) (xs (i + 2)) (xs (i + 3)))
  refine pw_aload_n (i := 1) 2 rfl rfl 896 dL_law_895 rfl ?_
  refine pl_arg (i := i) 1 901 dL_law_896 dL_law_897 dL_law_898 rfl dL_law_899 dL_law_900 rfl (by omega) hL ?_
  refine pl_arg (i := i) 2 906 dL_law_901 dL_law_902 dL_law_903 rfl dL_law_904 dL_law_905 rfl (by omega) hL ?_
  refine pl_arg (i := i) 3 911 dL_law_906 dL_law_907 dL_law_908 rfl dL_law_909 dL_law_910 rfl (by omega) hL ?_
  refine pw_callVi 914 dL_law_911 rfl [.int (xs (i + 1)), .int (xs (i + 2)), .int (xs (i + 3))] 3 ⟨gL_law_X6_drawn, rfl, sgV_X6_drawn, ⟨Nat.le_of_ble_eq_true rfl, Nat.le_of_ble_eq_true rfl⟩, ⟨Nat.le_of_ble_eq_true rfl, Nat.le_of_ble_eq_true rfl⟩⟩ ly_0 (by decide) la_0 rfl (k_X6_drawn e1) rfl rfl (Nat.le_of_ble_eq_true rfl) ?_
  refine pw_aload_n (i := 2) 1 rfl rfl 915 dL_law_914 rfl ?_
  refine pl_arg (i := i) 1 920 dL_law_915 dL_law_916 dL_law_917 rfl dL_law_918 dL_law_919 rfl (by omega) hL ?_
  refine pl_arg (i := i) 2 925 dL_law_920 dL_law_921 dL_law_922 rfl dL_law_923 dL_law_924 rfl (by omega) hL ?_
  refine pl_arg (i := i) 3 930 dL_law_925 dL_law_926 dL_law_927 rfl dL_law_928 dL_law_929 rfl (by omega) hL ?_
  refine pw_callVi 933 dL_law_930 rfl [.int (xs (i + 1)), .int (xs (i + 2)), .int (xs (i + 3))] 3 ⟨gL_law_X7_drawn, rfl, sgV_X7_drawn, ⟨Nat.le_of_ble_eq_true rfl, Nat.le_of_ble_eq_true rfl⟩, ⟨Nat.le_of_ble_eq_true rfl, Nat.le_of_ble_eq_true rfl⟩⟩ ly_298 (by decide) la_298 rfl (k_X7_drawn e2) rfl rfl (Nat.le_of_ble_eq_true rfl) ?_
  exact pw_icmp_eq 1132 936 dL_law_933 (by decide) rfl (fun _ => kend _ hI2) (fun h => absurd rfl h)
