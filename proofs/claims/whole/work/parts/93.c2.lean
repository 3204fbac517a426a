/-! the law's cases 16 to 23 -/
theorem dL_law_644 : decode code 644 = .ok (.aload_n 1, 1) := by decide +kernel
theorem dL_law_645 : decode code 645 = .ok (.aload_n 0, 1) := by decide +kernel
theorem dL_law_646 : decode code 646 = .ok (.iload_n 3, 1) := by decide +kernel
theorem dL_law_647 : decode code 647 = .ok (.iconst 1, 1) := by decide +kernel
theorem dL_law_648 : decode code 648 = .ok (.iadd, 1) := by decide +kernel
theorem dL_law_649 : decode code 649 = .ok (.iaload, 1) := by decide +kernel
theorem dL_law_650 : decode code 650 = .ok (.aload_n 0, 1) := by decide +kernel
theorem dL_law_651 : decode code 651 = .ok (.iload_n 3, 1) := by decide +kernel
theorem dL_law_652 : decode code 652 = .ok (.iconst 2, 1) := by decide +kernel
theorem dL_law_653 : decode code 653 = .ok (.iadd, 1) := by decide +kernel
theorem dL_law_654 : decode code 654 = .ok (.iaload, 1) := by decide +kernel
theorem dL_law_655 : decode code 655 = .ok (.invokevirtual 85, 3) := by decide +kernel
theorem dL_law_658 : decode code 658 = .ok (.aload_n 2, 1) := by decide +kernel
theorem dL_law_659 : decode code 659 = .ok (.aload_n 0, 1) := by decide +kernel
theorem dL_law_660 : decode code 660 = .ok (.iload_n 3, 1) := by decide +kernel
theorem dL_law_661 : decode code 661 = .ok (.iconst 1, 1) := by decide +kernel
theorem dL_law_662 : decode code 662 = .ok (.iadd, 1) := by decide +kernel
theorem dL_law_663 : decode code 663 = .ok (.iaload, 1) := by decide +kernel
theorem dL_law_664 : decode code 664 = .ok (.aload_n 0, 1) := by decide +kernel
theorem dL_law_665 : decode code 665 = .ok (.iload_n 3, 1) := by decide +kernel
theorem dL_law_666 : decode code 666 = .ok (.iconst 2, 1) := by decide +kernel
theorem dL_law_667 : decode code 667 = .ok (.iadd, 1) := by decide +kernel
theorem dL_law_668 : decode code 668 = .ok (.iaload, 1) := by decide +kernel
theorem dL_law_669 : decode code 669 = .ok (.invokevirtual 89, 3) := by decide +kernel
theorem dL_law_672 : decode code 672 = .ok (.lcmp, 1) := by decide +kernel
theorem dL_law_673 : decode code 673 = .ok (.ifCond .eq 489, 3) := by decide +kernel
theorem dL_law_678 : decode code 678 = .ok (.aload_n 1, 1) := by decide +kernel
theorem dL_law_679 : decode code 679 = .ok (.aload_n 0, 1) := by decide +kernel
theorem dL_law_680 : decode code 680 = .ok (.iload_n 3, 1) := by decide +kernel
theorem dL_law_681 : decode code 681 = .ok (.iconst 1, 1) := by decide +kernel
theorem dL_law_682 : decode code 682 = .ok (.iadd, 1) := by decide +kernel
theorem dL_law_683 : decode code 683 = .ok (.iaload, 1) := by decide +kernel
theorem dL_law_684 : decode code 684 = .ok (.aload_n 0, 1) := by decide +kernel
theorem dL_law_685 : decode code 685 = .ok (.iload_n 3, 1) := by decide +kernel
theorem dL_law_686 : decode code 686 = .ok (.iconst 2, 1) := by decide +kernel
theorem dL_law_687 : decode code 687 = .ok (.iadd, 1) := by decide +kernel
theorem dL_law_688 : decode code 688 = .ok (.iaload, 1) := by decide +kernel
theorem dL_law_689 : decode code 689 = .ok (.aload_n 0, 1) := by decide +kernel
theorem dL_law_690 : decode code 690 = .ok (.iload_n 3, 1) := by decide +kernel
theorem dL_law_691 : decode code 691 = .ok (.iconst 3, 1) := by decide +kernel
theorem dL_law_692 : decode code 692 = .ok (.iadd, 1) := by decide +kernel
theorem dL_law_693 : decode code 693 = .ok (.iaload, 1) := by decide +kernel
theorem dL_law_694 : decode code 694 = .ok (.aload_n 0, 1) := by decide +kernel
theorem dL_law_695 : decode code 695 = .ok (.iload_n 3, 1) := by decide +kernel
theorem dL_law_696 : decode code 696 = .ok (.iconst 4, 1) := by decide +kernel
theorem dL_law_697 : decode code 697 = .ok (.iadd, 1) := by decide +kernel
theorem dL_law_698 : decode code 698 = .ok (.iaload, 1) := by decide +kernel
theorem dL_law_699 : decode code 699 = .ok (.aload_n 0, 1) := by decide +kernel
theorem dL_law_700 : decode code 700 = .ok (.iload_n 3, 1) := by decide +kernel
theorem dL_law_701 : decode code 701 = .ok (.iconst 5, 1) := by decide +kernel
theorem dL_law_702 : decode code 702 = .ok (.iadd, 1) := by decide +kernel
theorem dL_law_703 : decode code 703 = .ok (.iaload, 1) := by decide +kernel
theorem dL_law_704 : decode code 704 = .ok (.invokevirtual 90, 3) := by decide +kernel
theorem dL_law_707 : decode code 707 = .ok (.aload_n 2, 1) := by decide +kernel
theorem dL_law_708 : decode code 708 = .ok (.aload_n 0, 1) := by decide +kernel
theorem dL_law_709 : decode code 709 = .ok (.iload_n 3, 1) := by decide +kernel
theorem dL_law_710 : decode code 710 = .ok (.iconst 1, 1) := by decide +kernel
theorem dL_law_711 : decode code 711 = .ok (.iadd, 1) := by decide +kernel
theorem dL_law_712 : decode code 712 = .ok (.iaload, 1) := by decide +kernel
theorem dL_law_713 : decode code 713 = .ok (.aload_n 0, 1) := by decide +kernel
theorem dL_law_714 : decode code 714 = .ok (.iload_n 3, 1) := by decide +kernel
theorem dL_law_715 : decode code 715 = .ok (.iconst 2, 1) := by decide +kernel
theorem dL_law_716 : decode code 716 = .ok (.iadd, 1) := by decide +kernel
theorem dL_law_717 : decode code 717 = .ok (.iaload, 1) := by decide +kernel
theorem dL_law_718 : decode code 718 = .ok (.aload_n 0, 1) := by decide +kernel
theorem dL_law_719 : decode code 719 = .ok (.iload_n 3, 1) := by decide +kernel
theorem dL_law_720 : decode code 720 = .ok (.iconst 3, 1) := by decide +kernel
theorem dL_law_721 : decode code 721 = .ok (.iadd, 1) := by decide +kernel
theorem dL_law_722 : decode code 722 = .ok (.iaload, 1) := by decide +kernel
theorem dL_law_723 : decode code 723 = .ok (.aload_n 0, 1) := by decide +kernel
theorem dL_law_724 : decode code 724 = .ok (.iload_n 3, 1) := by decide +kernel
theorem dL_law_725 : decode code 725 = .ok (.iconst 4, 1) := by decide +kernel
theorem dL_law_726 : decode code 726 = .ok (.iadd, 1) := by decide +kernel
theorem dL_law_727 : decode code 727 = .ok (.iaload, 1) := by decide +kernel
theorem dL_law_728 : decode code 728 = .ok (.aload_n 0, 1) := by decide +kernel
theorem dL_law_729 : decode code 729 = .ok (.iload_n 3, 1) := by decide +kernel
theorem dL_law_730 : decode code 730 = .ok (.iconst 5, 1) := by decide +kernel
theorem dL_law_731 : decode code 731 = .ok (.iadd, 1) := by decide +kernel
theorem dL_law_732 : decode code 732 = .ok (.iaload, 1) := by decide +kernel
theorem dL_law_733 : decode code 733 = .ok (.invokevirtual 94, 3) := by decide +kernel
theorem dL_law_736 : decode code 736 = .ok (.lcmp, 1) := by decide +kernel
theorem dL_law_737 : decode code 737 = .ok (.ifCond .eq 425, 3) := by decide +kernel
theorem dL_law_742 : decode code 742 = .ok (.aload_n 1, 1) := by decide +kernel
theorem dL_law_743 : decode code 743 = .ok (.aload_n 0, 1) := by decide +kernel
theorem dL_law_744 : decode code 744 = .ok (.iload_n 3, 1) := by decide +kernel
theorem dL_law_745 : decode code 745 = .ok (.iconst 1, 1) := by decide +kernel
theorem dL_law_746 : decode code 746 = .ok (.iadd, 1) := by decide +kernel
theorem dL_law_747 : decode code 747 = .ok (.iaload, 1) := by decide +kernel
theorem dL_law_748 : decode code 748 = .ok (.aload_n 0, 1) := by decide +kernel
theorem dL_law_749 : decode code 749 = .ok (.iload_n 3, 1) := by decide +kernel
theorem dL_law_750 : decode code 750 = .ok (.iconst 2, 1) := by decide +kernel
theorem dL_law_751 : decode code 751 = .ok (.iadd, 1) := by decide +kernel
theorem dL_law_752 : decode code 752 = .ok (.iaload, 1) := by decide +kernel
theorem dL_law_753 : decode code 753 = .ok (.aload_n 0, 1) := by decide +kernel
theorem dL_law_754 : decode code 754 = .ok (.iload_n 3, 1) := by decide +kernel
theorem dL_law_755 : decode code 755 = .ok (.iconst 3, 1) := by decide +kernel
theorem dL_law_756 : decode code 756 = .ok (.iadd, 1) := by decide +kernel
theorem dL_law_757 : decode code 757 = .ok (.iaload, 1) := by decide +kernel
theorem dL_law_758 : decode code 758 = .ok (.invokevirtual 95, 3) := by decide +kernel
theorem dL_law_761 : decode code 761 = .ok (.aload_n 2, 1) := by decide +kernel
theorem dL_law_762 : decode code 762 = .ok (.aload_n 0, 1) := by decide +kernel
theorem dL_law_763 : decode code 763 = .ok (.iload_n 3, 1) := by decide +kernel
theorem dL_law_764 : decode code 764 = .ok (.iconst 1, 1) := by decide +kernel
theorem dL_law_765 : decode code 765 = .ok (.iadd, 1) := by decide +kernel
theorem dL_law_766 : decode code 766 = .ok (.iaload, 1) := by decide +kernel
theorem dL_law_767 : decode code 767 = .ok (.aload_n 0, 1) := by decide +kernel
theorem dL_law_768 : decode code 768 = .ok (.iload_n 3, 1) := by decide +kernel
theorem dL_law_769 : decode code 769 = .ok (.iconst 2, 1) := by decide +kernel
theorem dL_law_770 : decode code 770 = .ok (.iadd, 1) := by decide +kernel
theorem dL_law_771 : decode code 771 = .ok (.iaload, 1) := by decide +kernel
theorem dL_law_772 : decode code 772 = .ok (.aload_n 0, 1) := by decide +kernel
theorem dL_law_773 : decode code 773 = .ok (.iload_n 3, 1) := by decide +kernel
theorem dL_law_774 : decode code 774 = .ok (.iconst 3, 1) := by decide +kernel
theorem dL_law_775 : decode code 775 = .ok (.iadd, 1) := by decide +kernel
theorem dL_law_776 : decode code 776 = .ok (.iaload, 1) := by decide +kernel
theorem dL_law_777 : decode code 777 = .ok (.invokevirtual 99, 3) := by decide +kernel
theorem dL_law_780 : decode code 780 = .ok (.lcmp, 1) := by decide +kernel
theorem dL_law_781 : decode code 781 = .ok (.ifCond .eq 381, 3) := by decide +kernel
theorem dL_law_786 : decode code 786 = .ok (.aload_n 1, 1) := by decide +kernel
theorem dL_law_787 : decode code 787 = .ok (.aload_n 0, 1) := by decide +kernel
theorem dL_law_788 : decode code 788 = .ok (.iload_n 3, 1) := by decide +kernel
theorem dL_law_789 : decode code 789 = .ok (.iconst 1, 1) := by decide +kernel
theorem dL_law_790 : decode code 790 = .ok (.iadd, 1) := by decide +kernel
theorem dL_law_791 : decode code 791 = .ok (.iaload, 1) := by decide +kernel
theorem dL_law_792 : decode code 792 = .ok (.invokevirtual 100, 3) := by decide +kernel
theorem dL_law_795 : decode code 795 = .ok (.aload_n 2, 1) := by decide +kernel
theorem dL_law_796 : decode code 796 = .ok (.aload_n 0, 1) := by decide +kernel
theorem dL_law_797 : decode code 797 = .ok (.iload_n 3, 1) := by decide +kernel
theorem dL_law_798 : decode code 798 = .ok (.iconst 1, 1) := by decide +kernel
theorem dL_law_799 : decode code 799 = .ok (.iadd, 1) := by decide +kernel
theorem dL_law_800 : decode code 800 = .ok (.iaload, 1) := by decide +kernel
theorem dL_law_801 : decode code 801 = .ok (.invokevirtual 103, 3) := by decide +kernel
theorem dL_law_804 : decode code 804 = .ok (.if_icmp .eq 358, 3) := by decide +kernel
theorem dL_law_809 : decode code 809 = .ok (.aload_n 1, 1) := by decide +kernel
theorem dL_law_810 : decode code 810 = .ok (.aload_n 0, 1) := by decide +kernel
theorem dL_law_811 : decode code 811 = .ok (.iload_n 3, 1) := by decide +kernel
theorem dL_law_812 : decode code 812 = .ok (.iconst 1, 1) := by decide +kernel
theorem dL_law_813 : decode code 813 = .ok (.iadd, 1) := by decide +kernel
theorem dL_law_814 : decode code 814 = .ok (.iaload, 1) := by decide +kernel
theorem dL_law_815 : decode code 815 = .ok (.aload_n 0, 1) := by decide +kernel
theorem dL_law_816 : decode code 816 = .ok (.iload_n 3, 1) := by decide +kernel
theorem dL_law_817 : decode code 817 = .ok (.iconst 2, 1) := by decide +kernel
theorem dL_law_818 : decode code 818 = .ok (.iadd, 1) := by decide +kernel
theorem dL_law_819 : decode code 819 = .ok (.iaload, 1) := by decide +kernel
theorem dL_law_820 : decode code 820 = .ok (.aload_n 0, 1) := by decide +kernel
theorem dL_law_821 : decode code 821 = .ok (.iload_n 3, 1) := by decide +kernel
theorem dL_law_822 : decode code 822 = .ok (.iconst 3, 1) := by decide +kernel
theorem dL_law_823 : decode code 823 = .ok (.iadd, 1) := by decide +kernel
theorem dL_law_824 : decode code 824 = .ok (.iaload, 1) := by decide +kernel
theorem dL_law_825 : decode code 825 = .ok (.invokevirtual 104, 3) := by decide +kernel
theorem dL_law_828 : decode code 828 = .ok (.aload_n 2, 1) := by decide +kernel
theorem dL_law_829 : decode code 829 = .ok (.aload_n 0, 1) := by decide +kernel
theorem dL_law_830 : decode code 830 = .ok (.iload_n 3, 1) := by decide +kernel
theorem dL_law_831 : decode code 831 = .ok (.iconst 1, 1) := by decide +kernel
theorem dL_law_832 : decode code 832 = .ok (.iadd, 1) := by decide +kernel
theorem dL_law_833 : decode code 833 = .ok (.iaload, 1) := by decide +kernel
theorem dL_law_834 : decode code 834 = .ok (.aload_n 0, 1) := by decide +kernel
theorem dL_law_835 : decode code 835 = .ok (.iload_n 3, 1) := by decide +kernel
theorem dL_law_836 : decode code 836 = .ok (.iconst 2, 1) := by decide +kernel
theorem dL_law_837 : decode code 837 = .ok (.iadd, 1) := by decide +kernel
theorem dL_law_838 : decode code 838 = .ok (.iaload, 1) := by decide +kernel
theorem dL_law_839 : decode code 839 = .ok (.aload_n 0, 1) := by decide +kernel
theorem dL_law_840 : decode code 840 = .ok (.iload_n 3, 1) := by decide +kernel
theorem dL_law_841 : decode code 841 = .ok (.iconst 3, 1) := by decide +kernel
theorem dL_law_842 : decode code 842 = .ok (.iadd, 1) := by decide +kernel
theorem dL_law_843 : decode code 843 = .ok (.iaload, 1) := by decide +kernel
theorem dL_law_844 : decode code 844 = .ok (.invokevirtual 107, 3) := by decide +kernel
theorem dL_law_847 : decode code 847 = .ok (.lcmp, 1) := by decide +kernel
theorem dL_law_848 : decode code 848 = .ok (.ifCond .eq 314, 3) := by decide +kernel
theorem dL_law_853 : decode code 853 = .ok (.aload_n 1, 1) := by decide +kernel
theorem dL_law_854 : decode code 854 = .ok (.aload_n 0, 1) := by decide +kernel
theorem dL_law_855 : decode code 855 = .ok (.iload_n 3, 1) := by decide +kernel
theorem dL_law_856 : decode code 856 = .ok (.iconst 1, 1) := by decide +kernel
theorem dL_law_857 : decode code 857 = .ok (.iadd, 1) := by decide +kernel
theorem dL_law_858 : decode code 858 = .ok (.iaload, 1) := by decide +kernel
theorem dL_law_859 : decode code 859 = .ok (.invokevirtual 108, 3) := by decide +kernel
theorem dL_law_862 : decode code 862 = .ok (.aload_n 2, 1) := by decide +kernel
theorem dL_law_863 : decode code 863 = .ok (.aload_n 0, 1) := by decide +kernel
theorem dL_law_864 : decode code 864 = .ok (.iload_n 3, 1) := by decide +kernel
theorem dL_law_865 : decode code 865 = .ok (.iconst 1, 1) := by decide +kernel
theorem dL_law_866 : decode code 866 = .ok (.iadd, 1) := by decide +kernel
theorem dL_law_867 : decode code 867 = .ok (.iaload, 1) := by decide +kernel
theorem dL_law_868 : decode code 868 = .ok (.invokevirtual 112, 3) := by decide +kernel
theorem dL_law_871 : decode code 871 = .ok (.lcmp, 1) := by decide +kernel
theorem dL_law_872 : decode code 872 = .ok (.ifCond .eq 290, 3) := by decide +kernel
theorem dL_law_877 : decode code 877 = .ok (.aload_n 1, 1) := by decide +kernel
theorem dL_law_878 : decode code 878 = .ok (.aload_n 0, 1) := by decide +kernel
theorem dL_law_879 : decode code 879 = .ok (.iload_n 3, 1) := by decide +kernel
theorem dL_law_880 : decode code 880 = .ok (.iconst 1, 1) := by decide +kernel
theorem dL_law_881 : decode code 881 = .ok (.iadd, 1) := by decide +kernel
theorem dL_law_882 : decode code 882 = .ok (.iaload, 1) := by decide +kernel
theorem dL_law_883 : decode code 883 = .ok (.aload_n 0, 1) := by decide +kernel
theorem dL_law_884 : decode code 884 = .ok (.iload_n 3, 1) := by decide +kernel
theorem dL_law_885 : decode code 885 = .ok (.iconst 2, 1) := by decide +kernel
theorem dL_law_886 : decode code 886 = .ok (.iadd, 1) := by decide +kernel
theorem dL_law_887 : decode code 887 = .ok (.iaload, 1) := by decide +kernel
theorem dL_law_888 : decode code 888 = .ok (.invokevirtual 113, 3) := by decide +kernel
theorem dL_law_891 : decode code 891 = .ok (.aload_n 2, 1) := by decide +kernel
theorem dL_law_892 : decode code 892 = .ok (.aload_n 0, 1) := by decide +kernel
theorem dL_law_893 : decode code 893 = .ok (.iload_n 3, 1) := by decide +kernel
theorem dL_law_894 : decode code 894 = .ok (.iconst 1, 1) := by decide +kernel
theorem dL_law_895 : decode code 895 = .ok (.iadd, 1) := by decide +kernel
theorem dL_law_896 : decode code 896 = .ok (.iaload, 1) := by decide +kernel
theorem dL_law_897 : decode code 897 = .ok (.aload_n 0, 1) := by decide +kernel
theorem dL_law_898 : decode code 898 = .ok (.iload_n 3, 1) := by decide +kernel
theorem dL_law_899 : decode code 899 = .ok (.iconst 2, 1) := by decide +kernel
theorem dL_law_900 : decode code 900 = .ok (.iadd, 1) := by decide +kernel
theorem dL_law_901 : decode code 901 = .ok (.iaload, 1) := by decide +kernel
theorem dL_law_902 : decode code 902 = .ok (.invokevirtual 116, 3) := by decide +kernel
theorem dL_law_905 : decode code 905 = .ok (.if_icmp .eq 257, 3) := by decide +kernel
theorem dL_law_910 : decode code 910 = .ok (.aload_n 1, 1) := by decide +kernel
theorem dL_law_911 : decode code 911 = .ok (.aload_n 0, 1) := by decide +kernel
theorem dL_law_912 : decode code 912 = .ok (.iload_n 3, 1) := by decide +kernel
theorem dL_law_913 : decode code 913 = .ok (.iconst 1, 1) := by decide +kernel
theorem dL_law_914 : decode code 914 = .ok (.iadd, 1) := by decide +kernel
theorem dL_law_915 : decode code 915 = .ok (.iaload, 1) := by decide +kernel
theorem dL_law_916 : decode code 916 = .ok (.aload_n 0, 1) := by decide +kernel
theorem dL_law_917 : decode code 917 = .ok (.iload_n 3, 1) := by decide +kernel
theorem dL_law_918 : decode code 918 = .ok (.iconst 2, 1) := by decide +kernel
theorem dL_law_919 : decode code 919 = .ok (.iadd, 1) := by decide +kernel
theorem dL_law_920 : decode code 920 = .ok (.iaload, 1) := by decide +kernel
theorem dL_law_921 : decode code 921 = .ok (.invokevirtual 117, 3) := by decide +kernel
theorem dL_law_924 : decode code 924 = .ok (.aload_n 2, 1) := by decide +kernel
theorem dL_law_925 : decode code 925 = .ok (.aload_n 0, 1) := by decide +kernel
theorem dL_law_926 : decode code 926 = .ok (.iload_n 3, 1) := by decide +kernel
theorem dL_law_927 : decode code 927 = .ok (.iconst 1, 1) := by decide +kernel
theorem dL_law_928 : decode code 928 = .ok (.iadd, 1) := by decide +kernel
theorem dL_law_929 : decode code 929 = .ok (.iaload, 1) := by decide +kernel
theorem dL_law_930 : decode code 930 = .ok (.aload_n 0, 1) := by decide +kernel
theorem dL_law_931 : decode code 931 = .ok (.iload_n 3, 1) := by decide +kernel
theorem dL_law_932 : decode code 932 = .ok (.iconst 2, 1) := by decide +kernel
theorem dL_law_933 : decode code 933 = .ok (.iadd, 1) := by decide +kernel
theorem dL_law_934 : decode code 934 = .ok (.iaload, 1) := by decide +kernel
theorem dL_law_935 : decode code 935 = .ok (.invokevirtual 120, 3) := by decide +kernel
theorem dL_law_938 : decode code 938 = .ok (.lcmp, 1) := by decide +kernel
theorem dL_law_939 : decode code 939 = .ok (.ifCond .eq 223, 3) := by decide +kernel
section LC
variable {κ : gK} {B b L i c0 w0 : Nat} {Q : State → Prop} {T : gT} {N : gN} {P : List gN} {S : gS} {u v : gM} {xs : Nat → Int32}
theorem lc_16 (X : gXJ κ (gAb B) code 4 RL ret 16 600 600000 7302250) (hsc : gScr b L xs (gAb B) κ) (hi : i + 6 ≤ L) (hL : L ≤ 3072) (hcw : c0 ≤ 600000 ∧ w0 ≤ 7302250) (hR : RR T N P S u v) (kb : ∀ (T : gT) (N : gN) (P : List gN) (S : gS) (u v : gM), RR T N P S u v → gJ κ 4 (gAb B) Q c0 w0 (gW2 B u v) 1162 [some (.ref b), some (.ref B), some (.ref (B + 162)), some (.int (nI i))] []) : gJ κ 4 (gAb B) Q c0 w0 (gW2 B u v) 644 [some (.ref b), some (.ref B), some (.ref (B + 162)), some (.int (nI i))] [] := by
  obtain ⟨r, u1, v1, T1, N1, P1, S1, e1, e2, hR1⟩ := (o_held (xs (i + 1)) (xs (i + 2)) hR).r hR
  refine j_aload_n X (x := B) dL_law_644 rfl ?_
  refine j_arg (k := 1) X hsc rfl (by omega) hL (by decide) dL_law_645 dL_law_646 dL_law_647 dL_law_648 dL_law_649 ?_
  refine j_arg (k := 2) X hsc rfl (by omega) hL (by decide) dL_law_650 dL_law_651 dL_law_652 dL_law_653 dL_law_654 ?_
  refine j_call1 (rest := []) X [.int (xs (i + 1)), .int (xs (i + 2))] (s_X11_held e1) cvL_85 rfl rfl (Nat.le_of_ble_eq_true rfl) ⟨by decide, by decide⟩ hcw dL_law_655 ?_
  refine j_aload_n X (x := B + 162) dL_law_658 rfl ?_
  refine j_arg (k := 1) X hsc rfl (by omega) hL (by decide) dL_law_659 dL_law_660 dL_law_661 dL_law_662 dL_law_663 ?_
  refine j_arg (k := 2) X hsc rfl (by omega) hL (by decide) dL_law_664 dL_law_665 dL_law_666 dL_law_667 dL_law_668 ?_
  refine j_call2 (rest := [.long r]) X [.int (xs (i + 1)), .int (xs (i + 2))] (s_X12_held e2) cvL_89 rfl rfl (Nat.le_of_ble_eq_true rfl) ⟨by decide, by decide⟩ hcw dL_law_669 ?_
  refine j_lcmp X dL_law_672 ?_
  exact j_if_eq (tgt := 1162) X dL_law_673 (by decide) (fun _ => kb _ _ _ _ _ _ hR1) (fun q => absurd ((lg_cmp_eq _ _).mpr rfl) q)
theorem lc_17 (X : gXJ κ (gAb B) code 4 RL ret 16 600 600000 7302250) (hsc : gScr b L xs (gAb B) κ) (hi : i + 6 ≤ L) (hL : L ≤ 3072) (hcw : c0 ≤ 600000 ∧ w0 ≤ 7302250) (hR : RR T N P S u v) (kb : ∀ (T : gT) (N : gN) (P : List gN) (S : gS) (u v : gM), RR T N P S u v → gJ κ 4 (gAb B) Q c0 w0 (gW2 B u v) 1162 [some (.ref b), some (.ref B), some (.ref (B + 162)), some (.int (nI i))] []) : gJ κ 4 (gAb B) Q c0 w0 (gW2 B u v) 678 [some (.ref b), some (.ref B), some (.ref (B + 162)), some (.int (nI i))] [] := by
  obtain ⟨r, u1, v1, T1, N1, P1, S1, e1, e2, hR1⟩ := (o_group (xs (i + 1)) (xs (i + 2)) (xs (i + 3)) (xs (i + 4)) (xs (i + 5)) hR).r hR
  refine j_aload_n X (x := B) dL_law_678 rfl ?_
  refine j_arg (k := 1) X hsc rfl (by omega) hL (by decide) dL_law_679 dL_law_680 dL_law_681 dL_law_682 dL_law_683 ?_
  refine j_arg (k := 2) X hsc rfl (by omega) hL (by decide) dL_law_684 dL_law_685 dL_law_686 dL_law_687 dL_law_688 ?_
  refine j_arg (k := 3) X hsc rfl (by omega) hL (by decide) dL_law_689 dL_law_690 dL_law_691 dL_law_692 dL_law_693 ?_
  refine j_arg (k := 4) X hsc rfl (by omega) hL (by decide) dL_law_694 dL_law_695 dL_law_696 dL_law_697 dL_law_698 ?_
  refine j_arg (k := 5) X hsc rfl (by omega) hL (by decide) dL_law_699 dL_law_700 dL_law_701 dL_law_702 dL_law_703 ?_
  refine j_call1 (rest := []) X [.int (xs (i + 1)), .int (xs (i + 2)), .int (xs (i + 3)), .int (xs (i + 4)), .int (xs (i + 5))] (s_X11_group e1) cvL_90 rfl rfl (Nat.le_of_ble_eq_true rfl) ⟨by decide, by decide⟩ hcw dL_law_704 ?_
  refine j_aload_n X (x := B + 162) dL_law_707 rfl ?_
  refine j_arg (k := 1) X hsc rfl (by omega) hL (by decide) dL_law_708 dL_law_709 dL_law_710 dL_law_711 dL_law_712 ?_
  refine j_arg (k := 2) X hsc rfl (by omega) hL (by decide) dL_law_713 dL_law_714 dL_law_715 dL_law_716 dL_law_717 ?_
  refine j_arg (k := 3) X hsc rfl (by omega) hL (by decide) dL_law_718 dL_law_719 dL_law_720 dL_law_721 dL_law_722 ?_
  refine j_arg (k := 4) X hsc rfl (by omega) hL (by decide) dL_law_723 dL_law_724 dL_law_725 dL_law_726 dL_law_727 ?_
  refine j_arg (k := 5) X hsc rfl (by omega) hL (by decide) dL_law_728 dL_law_729 dL_law_730 dL_law_731 dL_law_732 ?_
  refine j_call2 (rest := [.long r]) X [.int (xs (i + 1)), .int (xs (i + 2)), .int (xs (i + 3)), .int (xs (i + 4)), .int (xs (i + 5))] (s_X12_group e2) cvL_94 rfl rfl (Nat.le_of_ble_eq_true rfl) ⟨by decide, by decide⟩ hcw dL_law_733 ?_
  refine j_lcmp X dL_law_736 ?_
  exact j_if_eq (tgt := 1162) X dL_law_737 (by decide) (fun _ => kb _ _ _ _ _ _ hR1) (fun q => absurd ((lg_cmp_eq _ _).mpr rfl) q)
theorem lc_18 (X : gXJ κ (gAb B) code 4 RL ret 16 600 600000 7302250) (hsc : gScr b L xs (gAb B) κ) (hi : i + 6 ≤ L) (hL : L ≤ 3072) (hcw : c0 ≤ 600000 ∧ w0 ≤ 7302250) (hR : RR T N P S u v) (kb : ∀ (T : gT) (N : gN) (P : List gN) (S : gS) (u v : gM), RR T N P S u v → gJ κ 4 (gAb B) Q c0 w0 (gW2 B u v) 1162 [some (.ref b), some (.ref B), some (.ref (B + 162)), some (.int (nI i))] []) : gJ κ 4 (gAb B) Q c0 w0 (gW2 B u v) 742 [some (.ref b), some (.ref B), some (.ref (B + 162)), some (.int (nI i))] [] := by
  obtain ⟨r, u1, v1, T1, N1, P1, S1, e1, e2, hR1⟩ := (o_of (xs (i + 1)) (xs (i + 2)) (xs (i + 3)) hR).r hR
  refine j_aload_n X (x := B) dL_law_742 rfl ?_
  refine j_arg (k := 1) X hsc rfl (by omega) hL (by decide) dL_law_743 dL_law_744 dL_law_745 dL_law_746 dL_law_747 ?_
  refine j_arg (k := 2) X hsc rfl (by omega) hL (by decide) dL_law_748 dL_law_749 dL_law_750 dL_law_751 dL_law_752 ?_
  refine j_arg (k := 3) X hsc rfl (by omega) hL (by decide) dL_law_753 dL_law_754 dL_law_755 dL_law_756 dL_law_757 ?_
  refine j_call1 (rest := []) X [.int (xs (i + 1)), .int (xs (i + 2)), .int (xs (i + 3))] (s_X11_of e1) cvL_95 rfl rfl (Nat.le_of_ble_eq_true rfl) ⟨by decide, by decide⟩ hcw dL_law_758 ?_
  refine j_aload_n X (x := B + 162) dL_law_761 rfl ?_
  refine j_arg (k := 1) X hsc rfl (by omega) hL (by decide) dL_law_762 dL_law_763 dL_law_764 dL_law_765 dL_law_766 ?_
  refine j_arg (k := 2) X hsc rfl (by omega) hL (by decide) dL_law_767 dL_law_768 dL_law_769 dL_law_770 dL_law_771 ?_
  refine j_arg (k := 3) X hsc rfl (by omega) hL (by decide) dL_law_772 dL_law_773 dL_law_774 dL_law_775 dL_law_776 ?_
  refine j_call2 (rest := [.long r]) X [.int (xs (i + 1)), .int (xs (i + 2)), .int (xs (i + 3))] (s_X12_of e2) cvL_99 rfl rfl (Nat.le_of_ble_eq_true rfl) ⟨by decide, by decide⟩ hcw dL_law_777 ?_
  refine j_lcmp X dL_law_780 ?_
  exact j_if_eq (tgt := 1162) X dL_law_781 (by decide) (fun _ => kb _ _ _ _ _ _ hR1) (fun q => absurd ((lg_cmp_eq _ _).mpr rfl) q)
theorem lc_19 (X : gXJ κ (gAb B) code 4 RL ret 16 600 600000 7302250) (hsc : gScr b L xs (gAb B) κ) (hi : i + 6 ≤ L) (hL : L ≤ 3072) (hcw : c0 ≤ 600000 ∧ w0 ≤ 7302250) (hR : RR T N P S u v) (kb : ∀ (T : gT) (N : gN) (P : List gN) (S : gS) (u v : gM), RR T N P S u v → gJ κ 4 (gAb B) Q c0 w0 (gW2 B u v) 1162 [some (.ref b), some (.ref B), some (.ref (B + 162)), some (.int (nI i))] []) : gJ κ 4 (gAb B) Q c0 w0 (gW2 B u v) 786 [some (.ref b), some (.ref B), some (.ref (B + 162)), some (.int (nI i))] [] := by
  obtain ⟨r, u1, v1, T1, N1, P1, S1, e1, e2, hR1⟩ := (o_warns (xs (i + 1)) hR).r hR
  refine j_aload_n X (x := B) dL_law_786 rfl ?_
  refine j_arg (k := 1) X hsc rfl (by omega) hL (by decide) dL_law_787 dL_law_788 dL_law_789 dL_law_790 dL_law_791 ?_
  refine j_call1 (rest := []) X [.int (xs (i + 1))] (s_X11_warns e1) cvL_100 rfl rfl (Nat.le_of_ble_eq_true rfl) ⟨by decide, by decide⟩ hcw dL_law_792 ?_
  refine j_aload_n X (x := B + 162) dL_law_795 rfl ?_
  refine j_arg (k := 1) X hsc rfl (by omega) hL (by decide) dL_law_796 dL_law_797 dL_law_798 dL_law_799 dL_law_800 ?_
  refine j_call2 (rest := [.int r]) X [.int (xs (i + 1))] (s_X12_warns e2) cvL_103 rfl rfl (Nat.le_of_ble_eq_true rfl) ⟨by decide, by decide⟩ hcw dL_law_801 ?_
  exact j_icmp_eq (tgt := 1162) X dL_law_804 (by decide) (fun _ => kb _ _ _ _ _ _ hR1) (fun q => absurd rfl q)
theorem lc_20 (X : gXJ κ (gAb B) code 4 RL ret 16 600 600000 7302250) (hsc : gScr b L xs (gAb B) κ) (hi : i + 6 ≤ L) (hL : L ≤ 3072) (hcw : c0 ≤ 600000 ∧ w0 ≤ 7302250) (hR : RR T N P S u v) (kb : ∀ (T : gT) (N : gN) (P : List gN) (S : gS) (u v : gM), RR T N P S u v → gJ κ 4 (gAb B) Q c0 w0 (gW2 B u v) 1162 [some (.ref b), some (.ref B), some (.ref (B + 162)), some (.int (nI i))] []) : gJ κ 4 (gAb B) Q c0 w0 (gW2 B u v) 809 [some (.ref b), some (.ref B), some (.ref (B + 162)), some (.int (nI i))] [] := by
  obtain ⟨r, e1, e2⟩ := o_came (xs (i + 1)) (xs (i + 2)) (xs (i + 3)) hR
  refine j_aload_n X (x := B) dL_law_809 rfl ?_
  refine j_arg (k := 1) X hsc rfl (by omega) hL (by decide) dL_law_810 dL_law_811 dL_law_812 dL_law_813 dL_law_814 ?_
  refine j_arg (k := 2) X hsc rfl (by omega) hL (by decide) dL_law_815 dL_law_816 dL_law_817 dL_law_818 dL_law_819 ?_
  refine j_arg (k := 3) X hsc rfl (by omega) hL (by decide) dL_law_820 dL_law_821 dL_law_822 dL_law_823 dL_law_824 ?_
  refine j_call1 (rest := []) X [.int (xs (i + 1)), .int (xs (i + 2)), .int (xs (i + 3))] (s_X11_came e1) cvL_104 rfl rfl (Nat.le_of_ble_eq_true rfl) ⟨by decide, by decide⟩ hcw dL_law_825 ?_
  refine j_aload_n X (x := B + 162) dL_law_828 rfl ?_
  refine j_arg (k := 1) X hsc rfl (by omega) hL (by decide) dL_law_829 dL_law_830 dL_law_831 dL_law_832 dL_law_833 ?_
  refine j_arg (k := 2) X hsc rfl (by omega) hL (by decide) dL_law_834 dL_law_835 dL_law_836 dL_law_837 dL_law_838 ?_
  refine j_arg (k := 3) X hsc rfl (by omega) hL (by decide) dL_law_839 dL_law_840 dL_law_841 dL_law_842 dL_law_843 ?_
  refine j_call2 (rest := [.long r]) X [.int (xs (i + 1)), .int (xs (i + 2)), .int (xs (i + 3))] (s_X12_came e2) cvL_107 rfl rfl (Nat.le_of_ble_eq_true rfl) ⟨by decide, by decide⟩ hcw dL_law_844 ?_
  refine j_lcmp X dL_law_847 ?_
  exact j_if_eq (tgt := 1162) X dL_law_848 (by decide) (fun _ => kb _ _ _ _ _ _ hR) (fun q => absurd ((lg_cmp_eq _ _).mpr rfl) q)
theorem lc_21 (X : gXJ κ (gAb B) code 4 RL ret 16 600 600000 7302250) (hsc : gScr b L xs (gAb B) κ) (hi : i + 6 ≤ L) (hL : L ≤ 3072) (hcw : c0 ≤ 600000 ∧ w0 ≤ 7302250) (hR : RR T N P S u v) (kb : ∀ (T : gT) (N : gN) (P : List gN) (S : gS) (u v : gM), RR T N P S u v → gJ κ 4 (gAb B) Q c0 w0 (gW2 B u v) 1162 [some (.ref b), some (.ref B), some (.ref (B + 162)), some (.int (nI i))] []) : gJ κ 4 (gAb B) Q c0 w0 (gW2 B u v) 853 [some (.ref b), some (.ref B), some (.ref (B + 162)), some (.int (nI i))] [] := by
  obtain ⟨r, e1, e2⟩ := o_total (xs (i + 1)) hR
  refine j_aload_n X (x := B) dL_law_853 rfl ?_
  refine j_arg (k := 1) X hsc rfl (by omega) hL (by decide) dL_law_854 dL_law_855 dL_law_856 dL_law_857 dL_law_858 ?_
  refine j_call1 (rest := []) X [.int (xs (i + 1))] (s_X11_total e1) cvL_108 rfl rfl (Nat.le_of_ble_eq_true rfl) ⟨by decide, by decide⟩ hcw dL_law_859 ?_
  refine j_aload_n X (x := B + 162) dL_law_862 rfl ?_
  refine j_arg (k := 1) X hsc rfl (by omega) hL (by decide) dL_law_863 dL_law_864 dL_law_865 dL_law_866 dL_law_867 ?_
  refine j_call2 (rest := [.long r]) X [.int (xs (i + 1))] (s_X12_total e2) cvL_112 rfl rfl (Nat.le_of_ble_eq_true rfl) ⟨by decide, by decide⟩ hcw dL_law_868 ?_
  refine j_lcmp X dL_law_871 ?_
  exact j_if_eq (tgt := 1162) X dL_law_872 (by decide) (fun _ => kb _ _ _ _ _ _ hR) (fun q => absurd ((lg_cmp_eq _ _).mpr rfl) q)
theorem lc_22 (X : gXJ κ (gAb B) code 4 RL ret 16 600 600000 7302250) (hsc : gScr b L xs (gAb B) κ) (hi : i + 6 ≤ L) (hL : L ≤ 3072) (hcw : c0 ≤ 600000 ∧ w0 ≤ 7302250) (hR : RR T N P S u v) (kb : ∀ (T : gT) (N : gN) (P : List gN) (S : gS) (u v : gM), RR T N P S u v → gJ κ 4 (gAb B) Q c0 w0 (gW2 B u v) 1162 [some (.ref b), some (.ref B), some (.ref (B + 162)), some (.int (nI i))] []) : gJ κ 4 (gAb B) Q c0 w0 (gW2 B u v) 877 [some (.ref b), some (.ref B), some (.ref (B + 162)), some (.int (nI i))] [] := by
  obtain ⟨r, e1, e2⟩ := o_loan (xs (i + 1)) (xs (i + 2)) hR
  refine j_aload_n X (x := B) dL_law_877 rfl ?_
  refine j_arg (k := 1) X hsc rfl (by omega) hL (by decide) dL_law_878 dL_law_879 dL_law_880 dL_law_881 dL_law_882 ?_
  refine j_arg (k := 2) X hsc rfl (by omega) hL (by decide) dL_law_883 dL_law_884 dL_law_885 dL_law_886 dL_law_887 ?_
  refine j_call1 (rest := []) X [.int (xs (i + 1)), .int (xs (i + 2))] (s_X11_loan e1) cvL_113 rfl rfl (Nat.le_of_ble_eq_true rfl) ⟨by decide, by decide⟩ hcw dL_law_888 ?_
  refine j_aload_n X (x := B + 162) dL_law_891 rfl ?_
  refine j_arg (k := 1) X hsc rfl (by omega) hL (by decide) dL_law_892 dL_law_893 dL_law_894 dL_law_895 dL_law_896 ?_
  refine j_arg (k := 2) X hsc rfl (by omega) hL (by decide) dL_law_897 dL_law_898 dL_law_899 dL_law_900 dL_law_901 ?_
  refine j_call2 (rest := [.int r]) X [.int (xs (i + 1)), .int (xs (i + 2))] (s_X12_loan e2) cvL_116 rfl rfl (Nat.le_of_ble_eq_true rfl) ⟨by decide, by decide⟩ hcw dL_law_902 ?_
  exact j_icmp_eq (tgt := 1162) X dL_law_905 (by decide) (fun _ => kb _ _ _ _ _ _ hR) (fun q => absurd rfl q)
theorem lc_23 (X : gXJ κ (gAb B) code 4 RL ret 16 600 600000 7302250) (hsc : gScr b L xs (gAb B) κ) (hi : i + 6 ≤ L) (hL : L ≤ 3072) (hcw : c0 ≤ 600000 ∧ w0 ≤ 7302250) (hR : RR T N P S u v) (kb : ∀ (T : gT) (N : gN) (P : List gN) (S : gS) (u v : gM), RR T N P S u v → gJ κ 4 (gAb B) Q c0 w0 (gW2 B u v) 1162 [some (.ref b), some (.ref B), some (.ref (B + 162)), some (.int (nI i))] []) : gJ κ 4 (gAb B) Q c0 w0 (gW2 B u v) 910 [some (.ref b), some (.ref B), some (.ref (B + 162)), some (.int (nI i))] [] := by
  obtain ⟨r, u1, v1, T1, N1, P1, S1, e1, e2, hR1⟩ := (o_moves (xs (i + 1)) (xs (i + 2)) hR).r hR
  refine j_aload_n X (x := B) dL_law_910 rfl ?_
  refine j_arg (k := 1) X hsc rfl (by omega) hL (by decide) dL_law_911 dL_law_912 dL_law_913 dL_law_914 dL_law_915 ?_
  refine j_arg (k := 2) X hsc rfl (by omega) hL (by decide) dL_law_916 dL_law_917 dL_law_918 dL_law_919 dL_law_920 ?_
  refine j_call1 (rest := []) X [.int (xs (i + 1)), .int (xs (i + 2))] (s_X11_moves e1) cvL_117 rfl rfl (Nat.le_of_ble_eq_true rfl) ⟨by decide, by decide⟩ hcw dL_law_921 ?_
  refine j_aload_n X (x := B + 162) dL_law_924 rfl ?_
  refine j_arg (k := 1) X hsc rfl (by omega) hL (by decide) dL_law_925 dL_law_926 dL_law_927 dL_law_928 dL_law_929 ?_
  refine j_arg (k := 2) X hsc rfl (by omega) hL (by decide) dL_law_930 dL_law_931 dL_law_932 dL_law_933 dL_law_934 ?_
  refine j_call2 (rest := [.long r]) X [.int (xs (i + 1)), .int (xs (i + 2))] (s_X12_moves e2) cvL_120 rfl rfl (Nat.le_of_ble_eq_true rfl) ⟨by decide, by decide⟩ hcw dL_law_935 ?_
  refine j_lcmp X dL_law_938 ?_
  exact j_if_eq (tgt := 1162) X dL_law_939 (by decide) (fun _ => kb _ _ _ _ _ _ hR1) (fun q => absurd ((lg_cmp_eq _ _).mpr rfl) q)
end LC
