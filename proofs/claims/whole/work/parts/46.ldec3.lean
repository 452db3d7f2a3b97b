theorem tc_dL_656 : decode code 656 = .ok (.iload_n 3, 1) := by decide +kernel
theorem tc_dL_657 : decode code 657 = .ok (.iconst 1, 1) := by decide +kernel
theorem tc_dL_658 : decode code 658 = .ok (.iadd, 1) := by decide +kernel
theorem tc_dL_659 : decode code 659 = .ok (.iaload, 1) := by decide +kernel
theorem tc_dL_660 : decode code 660 = .ok (.aload_n 0, 1) := by decide +kernel
theorem tc_dL_661 : decode code 661 = .ok (.iload_n 3, 1) := by decide +kernel
theorem tc_dL_662 : decode code 662 = .ok (.iconst 2, 1) := by decide +kernel
theorem tc_dL_663 : decode code 663 = .ok (.iadd, 1) := by decide +kernel
theorem tc_dL_664 : decode code 664 = .ok (.iaload, 1) := by decide +kernel
theorem tc_dL_665 : decode code 665 = .ok (.invokevirtual 82, 3) := by decide +kernel
theorem tc_dL_668 : decode code 668 = .ok (.aload_n 2, 1) := by decide +kernel
theorem tc_dL_669 : decode code 669 = .ok (.aload_n 0, 1) := by decide +kernel
theorem tc_dL_670 : decode code 670 = .ok (.iload_n 3, 1) := by decide +kernel
theorem tc_dL_671 : decode code 671 = .ok (.iconst 1, 1) := by decide +kernel
theorem tc_dL_672 : decode code 672 = .ok (.iadd, 1) := by decide +kernel
theorem tc_dL_673 : decode code 673 = .ok (.iaload, 1) := by decide +kernel
theorem tc_dL_674 : decode code 674 = .ok (.aload_n 0, 1) := by decide +kernel
theorem tc_dL_675 : decode code 675 = .ok (.iload_n 3, 1) := by decide +kernel
theorem tc_dL_676 : decode code 676 = .ok (.iconst 2, 1) := by decide +kernel
theorem tc_dL_677 : decode code 677 = .ok (.iadd, 1) := by decide +kernel
theorem tc_dL_678 : decode code 678 = .ok (.iaload, 1) := by decide +kernel
theorem tc_dL_679 : decode code 679 = .ok (.invokevirtual 85, 3) := by decide +kernel
theorem tc_dL_682 : decode code 682 = .ok (.if_icmp .eq 677, 3) := by decide +kernel
theorem tc_dL_685 : decode code 685 = .ok (.iconst 0, 1) := by decide +kernel
theorem tc_dL_686 : decode code 686 = .ok (.ireturn, 1) := by decide +kernel
theorem tc_dL_687 : decode code 687 = .ok (.aload_n 1, 1) := by decide +kernel
theorem tc_dL_688 : decode code 688 = .ok (.aload_n 0, 1) := by decide +kernel
theorem tc_dL_689 : decode code 689 = .ok (.iload_n 3, 1) := by decide +kernel
theorem tc_dL_690 : decode code 690 = .ok (.iconst 1, 1) := by decide +kernel
theorem tc_dL_691 : decode code 691 = .ok (.iadd, 1) := by decide +kernel
theorem tc_dL_692 : decode code 692 = .ok (.iaload, 1) := by decide +kernel
theorem tc_dL_693 : decode code 693 = .ok (.invokevirtual 86, 3) := by decide +kernel
theorem tc_dL_696 : decode code 696 = .ok (.aload_n 2, 1) := by decide +kernel
theorem tc_dL_697 : decode code 697 = .ok (.aload_n 0, 1) := by decide +kernel
theorem tc_dL_698 : decode code 698 = .ok (.iload_n 3, 1) := by decide +kernel
theorem tc_dL_699 : decode code 699 = .ok (.iconst 1, 1) := by decide +kernel
theorem tc_dL_700 : decode code 700 = .ok (.iadd, 1) := by decide +kernel
theorem tc_dL_701 : decode code 701 = .ok (.iaload, 1) := by decide +kernel
theorem tc_dL_702 : decode code 702 = .ok (.invokevirtual 89, 3) := by decide +kernel
theorem tc_dL_705 : decode code 705 = .ok (.if_icmp .eq 654, 3) := by decide +kernel
theorem tc_dL_708 : decode code 708 = .ok (.iconst 0, 1) := by decide +kernel
theorem tc_dL_709 : decode code 709 = .ok (.ireturn, 1) := by decide +kernel
theorem tc_dL_710 : decode code 710 = .ok (.aload_n 1, 1) := by decide +kernel
theorem tc_dL_711 : decode code 711 = .ok (.aload_n 0, 1) := by decide +kernel
theorem tc_dL_712 : decode code 712 = .ok (.iload_n 3, 1) := by decide +kernel
theorem tc_dL_713 : decode code 713 = .ok (.iconst 1, 1) := by decide +kernel
theorem tc_dL_714 : decode code 714 = .ok (.iadd, 1) := by decide +kernel
theorem tc_dL_715 : decode code 715 = .ok (.iaload, 1) := by decide +kernel
theorem tc_dL_716 : decode code 716 = .ok (.invokevirtual 90, 3) := by decide +kernel
theorem tc_dL_719 : decode code 719 = .ok (.aload_n 2, 1) := by decide +kernel
theorem tc_dL_720 : decode code 720 = .ok (.aload_n 0, 1) := by decide +kernel
theorem tc_dL_721 : decode code 721 = .ok (.iload_n 3, 1) := by decide +kernel
theorem tc_dL_722 : decode code 722 = .ok (.iconst 1, 1) := by decide +kernel
theorem tc_dL_723 : decode code 723 = .ok (.iadd, 1) := by decide +kernel
theorem tc_dL_724 : decode code 724 = .ok (.iaload, 1) := by decide +kernel
theorem tc_dL_725 : decode code 725 = .ok (.invokevirtual 93, 3) := by decide +kernel
theorem tc_dL_728 : decode code 728 = .ok (.if_icmp .eq 631, 3) := by decide +kernel
theorem tc_dL_731 : decode code 731 = .ok (.iconst 0, 1) := by decide +kernel
theorem tc_dL_732 : decode code 732 = .ok (.ireturn, 1) := by decide +kernel
theorem tc_dL_733 : decode code 733 = .ok (.aload_n 1, 1) := by decide +kernel
theorem tc_dL_734 : decode code 734 = .ok (.aload_n 0, 1) := by decide +kernel
theorem tc_dL_735 : decode code 735 = .ok (.iload_n 3, 1) := by decide +kernel
theorem tc_dL_736 : decode code 736 = .ok (.iconst 1, 1) := by decide +kernel
theorem tc_dL_737 : decode code 737 = .ok (.iadd, 1) := by decide +kernel
theorem tc_dL_738 : decode code 738 = .ok (.iaload, 1) := by decide +kernel
theorem tc_dL_739 : decode code 739 = .ok (.invokevirtual 94, 3) := by decide +kernel
theorem tc_dL_742 : decode code 742 = .ok (.aload_n 2, 1) := by decide +kernel
theorem tc_dL_743 : decode code 743 = .ok (.aload_n 0, 1) := by decide +kernel
theorem tc_dL_744 : decode code 744 = .ok (.iload_n 3, 1) := by decide +kernel
theorem tc_dL_745 : decode code 745 = .ok (.iconst 1, 1) := by decide +kernel
theorem tc_dL_746 : decode code 746 = .ok (.iadd, 1) := by decide +kernel
theorem tc_dL_747 : decode code 747 = .ok (.iaload, 1) := by decide +kernel
theorem tc_dL_748 : decode code 748 = .ok (.invokevirtual 97, 3) := by decide +kernel
theorem tc_dL_751 : decode code 751 = .ok (.if_icmp .eq 608, 3) := by decide +kernel
theorem tc_dL_754 : decode code 754 = .ok (.iconst 0, 1) := by decide +kernel
theorem tc_dL_755 : decode code 755 = .ok (.ireturn, 1) := by decide +kernel
theorem tc_dL_756 : decode code 756 = .ok (.aload_n 1, 1) := by decide +kernel
theorem tc_dL_757 : decode code 757 = .ok (.aload_n 0, 1) := by decide +kernel
theorem tc_dL_758 : decode code 758 = .ok (.iload_n 3, 1) := by decide +kernel
theorem tc_dL_759 : decode code 759 = .ok (.iconst 1, 1) := by decide +kernel
theorem tc_dL_760 : decode code 760 = .ok (.iadd, 1) := by decide +kernel
theorem tc_dL_761 : decode code 761 = .ok (.iaload, 1) := by decide +kernel
theorem tc_dL_762 : decode code 762 = .ok (.invokevirtual 98, 3) := by decide +kernel
theorem tc_dL_765 : decode code 765 = .ok (.aload_n 2, 1) := by decide +kernel
theorem tc_dL_766 : decode code 766 = .ok (.aload_n 0, 1) := by decide +kernel
theorem tc_dL_767 : decode code 767 = .ok (.iload_n 3, 1) := by decide +kernel
theorem tc_dL_768 : decode code 768 = .ok (.iconst 1, 1) := by decide +kernel
theorem tc_dL_769 : decode code 769 = .ok (.iadd, 1) := by decide +kernel
theorem tc_dL_770 : decode code 770 = .ok (.iaload, 1) := by decide +kernel
theorem tc_dL_771 : decode code 771 = .ok (.invokevirtual 101, 3) := by decide +kernel
theorem tc_dL_774 : decode code 774 = .ok (.if_icmp .eq 585, 3) := by decide +kernel
theorem tc_dL_777 : decode code 777 = .ok (.iconst 0, 1) := by decide +kernel
theorem tc_dL_778 : decode code 778 = .ok (.ireturn, 1) := by decide +kernel
theorem tc_dL_779 : decode code 779 = .ok (.aload_n 1, 1) := by decide +kernel
theorem tc_dL_780 : decode code 780 = .ok (.aload_n 0, 1) := by decide +kernel
theorem tc_dL_781 : decode code 781 = .ok (.iload_n 3, 1) := by decide +kernel
theorem tc_dL_782 : decode code 782 = .ok (.iconst 1, 1) := by decide +kernel
theorem tc_dL_783 : decode code 783 = .ok (.iadd, 1) := by decide +kernel
theorem tc_dL_784 : decode code 784 = .ok (.iaload, 1) := by decide +kernel
theorem tc_dL_785 : decode code 785 = .ok (.invokevirtual 102, 3) := by decide +kernel
theorem tc_dL_788 : decode code 788 = .ok (.aload_n 2, 1) := by decide +kernel
theorem tc_dL_789 : decode code 789 = .ok (.aload_n 0, 1) := by decide +kernel
theorem tc_dL_790 : decode code 790 = .ok (.iload_n 3, 1) := by decide +kernel
theorem tc_dL_791 : decode code 791 = .ok (.iconst 1, 1) := by decide +kernel
theorem tc_dL_792 : decode code 792 = .ok (.iadd, 1) := by decide +kernel
theorem tc_dL_793 : decode code 793 = .ok (.iaload, 1) := by decide +kernel
theorem tc_dL_794 : decode code 794 = .ok (.invokevirtual 105, 3) := by decide +kernel
theorem tc_dL_797 : decode code 797 = .ok (.if_icmp .eq 562, 3) := by decide +kernel
theorem tc_dL_800 : decode code 800 = .ok (.iconst 0, 1) := by decide +kernel
theorem tc_dL_801 : decode code 801 = .ok (.ireturn, 1) := by decide +kernel
theorem tc_dL_802 : decode code 802 = .ok (.aload_n 1, 1) := by decide +kernel
theorem tc_dL_803 : decode code 803 = .ok (.aload_n 0, 1) := by decide +kernel
theorem tc_dL_804 : decode code 804 = .ok (.iload_n 3, 1) := by decide +kernel
theorem tc_dL_805 : decode code 805 = .ok (.iconst 1, 1) := by decide +kernel
theorem tc_dL_806 : decode code 806 = .ok (.iadd, 1) := by decide +kernel
theorem tc_dL_807 : decode code 807 = .ok (.iaload, 1) := by decide +kernel
theorem tc_dL_808 : decode code 808 = .ok (.invokevirtual 106, 3) := by decide +kernel
theorem tc_dL_811 : decode code 811 = .ok (.aload_n 2, 1) := by decide +kernel
theorem tc_dL_812 : decode code 812 = .ok (.aload_n 0, 1) := by decide +kernel
theorem tc_dL_813 : decode code 813 = .ok (.iload_n 3, 1) := by decide +kernel
theorem tc_dL_814 : decode code 814 = .ok (.iconst 1, 1) := by decide +kernel
theorem tc_dL_815 : decode code 815 = .ok (.iadd, 1) := by decide +kernel
theorem tc_dL_816 : decode code 816 = .ok (.iaload, 1) := by decide +kernel
theorem tc_dL_817 : decode code 817 = .ok (.invokevirtual 109, 3) := by decide +kernel
theorem tc_dL_820 : decode code 820 = .ok (.if_icmp .eq 539, 3) := by decide +kernel
theorem tc_dL_823 : decode code 823 = .ok (.iconst 0, 1) := by decide +kernel
theorem tc_dL_824 : decode code 824 = .ok (.ireturn, 1) := by decide +kernel
theorem tc_dL_825 : decode code 825 = .ok (.aload_n 1, 1) := by decide +kernel
theorem tc_dL_826 : decode code 826 = .ok (.invokevirtual 110, 3) := by decide +kernel
theorem tc_dL_829 : decode code 829 = .ok (.aload_n 2, 1) := by decide +kernel
theorem tc_dL_830 : decode code 830 = .ok (.invokevirtual 113, 3) := by decide +kernel
theorem tc_dL_833 : decode code 833 = .ok (.if_icmp .eq 526, 3) := by decide +kernel
theorem tc_dL_836 : decode code 836 = .ok (.iconst 0, 1) := by decide +kernel
theorem tc_dL_837 : decode code 837 = .ok (.ireturn, 1) := by decide +kernel
theorem tc_dL_838 : decode code 838 = .ok (.aload_n 1, 1) := by decide +kernel
theorem tc_dL_839 : decode code 839 = .ok (.aload_n 0, 1) := by decide +kernel
theorem tc_dL_840 : decode code 840 = .ok (.iload_n 3, 1) := by decide +kernel
theorem tc_dL_841 : decode code 841 = .ok (.iconst 1, 1) := by decide +kernel
theorem tc_dL_842 : decode code 842 = .ok (.iadd, 1) := by decide +kernel
theorem tc_dL_843 : decode code 843 = .ok (.iaload, 1) := by decide +kernel
theorem tc_dL_844 : decode code 844 = .ok (.aload_n 0, 1) := by decide +kernel
theorem tc_dL_845 : decode code 845 = .ok (.iload_n 3, 1) := by decide +kernel
theorem tc_dL_846 : decode code 846 = .ok (.iconst 2, 1) := by decide +kernel
theorem tc_dL_847 : decode code 847 = .ok (.iadd, 1) := by decide +kernel
theorem tc_dL_848 : decode code 848 = .ok (.iaload, 1) := by decide +kernel
theorem tc_dL_849 : decode code 849 = .ok (.invokevirtual 114, 3) := by decide +kernel
theorem tc_dL_852 : decode code 852 = .ok (.aload_n 2, 1) := by decide +kernel
theorem tc_dL_853 : decode code 853 = .ok (.aload_n 0, 1) := by decide +kernel
theorem tc_dL_854 : decode code 854 = .ok (.iload_n 3, 1) := by decide +kernel
theorem tc_dL_855 : decode code 855 = .ok (.iconst 1, 1) := by decide +kernel
theorem tc_dL_856 : decode code 856 = .ok (.iadd, 1) := by decide +kernel
theorem tc_dL_857 : decode code 857 = .ok (.iaload, 1) := by decide +kernel
theorem tc_dL_858 : decode code 858 = .ok (.aload_n 0, 1) := by decide +kernel
theorem tc_dL_859 : decode code 859 = .ok (.iload_n 3, 1) := by decide +kernel
theorem tc_dL_860 : decode code 860 = .ok (.iconst 2, 1) := by decide +kernel
theorem tc_dL_861 : decode code 861 = .ok (.iadd, 1) := by decide +kernel
theorem tc_dL_862 : decode code 862 = .ok (.iaload, 1) := by decide +kernel
theorem tc_dL_863 : decode code 863 = .ok (.invokevirtual 117, 3) := by decide +kernel
theorem tc_dL_866 : decode code 866 = .ok (.if_icmp .eq 493, 3) := by decide +kernel
theorem tc_dL_869 : decode code 869 = .ok (.iconst 0, 1) := by decide +kernel
theorem tc_dL_870 : decode code 870 = .ok (.ireturn, 1) := by decide +kernel
theorem tc_dL_871 : decode code 871 = .ok (.aload_n 1, 1) := by decide +kernel
theorem tc_dL_872 : decode code 872 = .ok (.aload_n 0, 1) := by decide +kernel
theorem tc_dL_873 : decode code 873 = .ok (.iload_n 3, 1) := by decide +kernel
theorem tc_dL_874 : decode code 874 = .ok (.iconst 1, 1) := by decide +kernel
theorem tc_dL_875 : decode code 875 = .ok (.iadd, 1) := by decide +kernel
theorem tc_dL_876 : decode code 876 = .ok (.iaload, 1) := by decide +kernel
theorem tc_dL_877 : decode code 877 = .ok (.aload_n 0, 1) := by decide +kernel
theorem tc_dL_878 : decode code 878 = .ok (.iload_n 3, 1) := by decide +kernel
theorem tc_dL_879 : decode code 879 = .ok (.iconst 2, 1) := by decide +kernel
theorem tc_dL_880 : decode code 880 = .ok (.iadd, 1) := by decide +kernel
theorem tc_dL_881 : decode code 881 = .ok (.iaload, 1) := by decide +kernel
theorem tc_dL_882 : decode code 882 = .ok (.aload_n 0, 1) := by decide +kernel
theorem tc_dL_883 : decode code 883 = .ok (.iload_n 3, 1) := by decide +kernel
theorem tc_dL_884 : decode code 884 = .ok (.iconst 3, 1) := by decide +kernel
theorem tc_dL_885 : decode code 885 = .ok (.iadd, 1) := by decide +kernel
theorem tc_dL_886 : decode code 886 = .ok (.iaload, 1) := by decide +kernel
theorem tc_dL_887 : decode code 887 = .ok (.aload_n 0, 1) := by decide +kernel
theorem tc_dL_888 : decode code 888 = .ok (.iload_n 3, 1) := by decide +kernel
theorem tc_dL_889 : decode code 889 = .ok (.iconst 4, 1) := by decide +kernel
theorem tc_dL_890 : decode code 890 = .ok (.iadd, 1) := by decide +kernel
theorem tc_dL_891 : decode code 891 = .ok (.iaload, 1) := by decide +kernel
theorem tc_dL_892 : decode code 892 = .ok (.aload_n 0, 1) := by decide +kernel
theorem tc_dL_893 : decode code 893 = .ok (.iload_n 3, 1) := by decide +kernel
theorem tc_dL_894 : decode code 894 = .ok (.iconst 5, 1) := by decide +kernel
theorem tc_dL_895 : decode code 895 = .ok (.iadd, 1) := by decide +kernel
theorem tc_dL_896 : decode code 896 = .ok (.iaload, 1) := by decide +kernel
theorem tc_dL_897 : decode code 897 = .ok (.invokevirtual 118, 3) := by decide +kernel
theorem tc_dL_900 : decode code 900 = .ok (.aload_n 2, 1) := by decide +kernel
theorem tc_dL_901 : decode code 901 = .ok (.aload_n 0, 1) := by decide +kernel
theorem tc_dL_902 : decode code 902 = .ok (.iload_n 3, 1) := by decide +kernel
theorem tc_dL_903 : decode code 903 = .ok (.iconst 1, 1) := by decide +kernel
theorem tc_dL_904 : decode code 904 = .ok (.iadd, 1) := by decide +kernel
