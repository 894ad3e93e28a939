theorem dL_law_664 : decode code 664 = .ok (.iload 5, 2) := by decide +kernel
theorem dL_law_666 : decode code 666 = .ok (.iconst 2, 1) := by decide +kernel
theorem dL_law_667 : decode code 667 = .ok (.iadd, 1) := by decide +kernel
theorem dL_law_668 : decode code 668 = .ok (.iaload, 1) := by decide +kernel
theorem dL_law_669 : decode code 669 = .ok (.invokevirtual 164, 3) := by decide +kernel
theorem dL_law_672 : decode code 672 = .ok (.istore 7, 2) := by decide +kernel
theorem dL_law_674 : decode code 674 = .ok (.aload_n 2, 1) := by decide +kernel
theorem dL_law_675 : decode code 675 = .ok (.invokevirtual 149, 3) := by decide +kernel
theorem dL_law_678 : decode code 678 = .ok (.iload 6, 2) := by decide +kernel
theorem dL_law_680 : decode code 680 = .ok (.if_icmp .eq 5, 3) := by decide +kernel
theorem dL_law_683 : decode code 683 = .ok (.iconst 0, 1) := by decide +kernel
theorem dL_law_685 : decode code 685 = .ok (.iload 6, 2) := by decide +kernel
theorem dL_law_687 : decode code 687 = .ok (.ifCond .ne 15, 3) := by decide +kernel
theorem dL_law_690 : decode code 690 = .ok (.aload_n 3, 1) := by decide +kernel
theorem dL_law_691 : decode code 691 = .ok (.iconst 0, 1) := by decide +kernel
theorem dL_law_692 : decode code 692 = .ok (.laload, 1) := by decide +kernel
theorem dL_law_693 : decode code 693 = .ok (.iload 7, 2) := by decide +kernel
theorem dL_law_695 : decode code 695 = .ok (.i2l, 1) := by decide +kernel
theorem dL_law_696 : decode code 696 = .ok (.lcmp, 1) := by decide +kernel
theorem dL_law_697 : decode code 697 = .ok (.ifCond .eq 5, 3) := by decide +kernel
theorem dL_law_700 : decode code 700 = .ok (.iconst 0, 1) := by decide +kernel
theorem dL_law_702 : decode code 702 = .ok (.goto 1817, 3) := by decide +kernel
theorem dL_law_705 : decode code 705 = .ok (.aload_n 1, 1) := by decide +kernel
theorem dL_law_706 : decode code 706 = .ok (.aload_n 0, 1) := by decide +kernel
theorem dL_law_707 : decode code 707 = .ok (.iload 5, 2) := by decide +kernel
theorem dL_law_709 : decode code 709 = .ok (.iconst 1, 1) := by decide +kernel
theorem dL_law_710 : decode code 710 = .ok (.iadd, 1) := by decide +kernel
theorem dL_law_711 : decode code 711 = .ok (.iaload, 1) := by decide +kernel
theorem dL_law_712 : decode code 712 = .ok (.aload_n 0, 1) := by decide +kernel
theorem dL_law_713 : decode code 713 = .ok (.iload 5, 2) := by decide +kernel
theorem dL_law_715 : decode code 715 = .ok (.iconst 2, 1) := by decide +kernel
theorem dL_law_716 : decode code 716 = .ok (.iadd, 1) := by decide +kernel
theorem dL_law_717 : decode code 717 = .ok (.iaload, 1) := by decide +kernel
theorem dL_law_718 : decode code 718 = .ok (.aload_n 3, 1) := by decide +kernel
theorem dL_law_719 : decode code 719 = .ok (.invokestatic 165, 3) := by decide +kernel
theorem dL_law_722 : decode code 722 = .ok (.istore 6, 2) := by decide +kernel
theorem dL_law_724 : decode code 724 = .ok (.aload_n 2, 1) := by decide +kernel
theorem dL_law_725 : decode code 725 = .ok (.aload_n 0, 1) := by decide +kernel
theorem dL_law_726 : decode code 726 = .ok (.iload 5, 2) := by decide +kernel
theorem dL_law_728 : decode code 728 = .ok (.iconst 1, 1) := by decide +kernel
theorem dL_law_729 : decode code 729 = .ok (.iadd, 1) := by decide +kernel
theorem dL_law_730 : decode code 730 = .ok (.iaload, 1) := by decide +kernel
theorem dL_law_731 : decode code 731 = .ok (.aload_n 0, 1) := by decide +kernel
theorem dL_law_732 : decode code 732 = .ok (.iload 5, 2) := by decide +kernel
theorem dL_law_734 : decode code 734 = .ok (.iconst 2, 1) := by decide +kernel
theorem dL_law_735 : decode code 735 = .ok (.iadd, 1) := by decide +kernel
theorem dL_law_736 : decode code 736 = .ok (.iaload, 1) := by decide +kernel
theorem dL_law_737 : decode code 737 = .ok (.invokevirtual 167, 3) := by decide +kernel
theorem dL_law_740 : decode code 740 = .ok (.istore 7, 2) := by decide +kernel
theorem dL_law_742 : decode code 742 = .ok (.aload_n 2, 1) := by decide +kernel
theorem dL_law_743 : decode code 743 = .ok (.invokevirtual 149, 3) := by decide +kernel
theorem dL_law_746 : decode code 746 = .ok (.iload 6, 2) := by decide +kernel
theorem dL_law_748 : decode code 748 = .ok (.if_icmp .eq 5, 3) := by decide +kernel
theorem dL_law_751 : decode code 751 = .ok (.iconst 0, 1) := by decide +kernel
theorem dL_law_753 : decode code 753 = .ok (.iload 6, 2) := by decide +kernel
theorem dL_law_755 : decode code 755 = .ok (.ifCond .ne 22, 3) := by decide +kernel
theorem dL_law_758 : decode code 758 = .ok (.aload_n 3, 1) := by decide +kernel
theorem dL_law_759 : decode code 759 = .ok (.iconst 0, 1) := by decide +kernel
theorem dL_law_760 : decode code 760 = .ok (.laload, 1) := by decide +kernel
theorem dL_law_761 : decode code 761 = .ok (.iload 7, 2) := by decide +kernel
theorem dL_law_763 : decode code 763 = .ok (.ifCond .eq 7, 3) := by decide +kernel
theorem dL_law_766 : decode code 766 = .ok (.lconst 1, 1) := by decide +kernel
theorem dL_law_767 : decode code 767 = .ok (.goto 4, 3) := by decide +kernel
theorem dL_law_770 : decode code 770 = .ok (.lconst 0, 1) := by decide +kernel
theorem dL_law_771 : decode code 771 = .ok (.lcmp, 1) := by decide +kernel
theorem dL_law_772 : decode code 772 = .ok (.ifCond .eq 5, 3) := by decide +kernel
theorem dL_law_775 : decode code 775 = .ok (.iconst 0, 1) := by decide +kernel
theorem dL_law_777 : decode code 777 = .ok (.goto 1742, 3) := by decide +kernel
theorem dL_law_780 : decode code 780 = .ok (.aload_n 1, 1) := by decide +kernel
theorem dL_law_781 : decode code 781 = .ok (.aload_n 0, 1) := by decide +kernel
theorem dL_law_782 : decode code 782 = .ok (.iload 5, 2) := by decide +kernel
theorem dL_law_784 : decode code 784 = .ok (.iconst 1, 1) := by decide +kernel
theorem dL_law_785 : decode code 785 = .ok (.iadd, 1) := by decide +kernel
theorem dL_law_786 : decode code 786 = .ok (.iaload, 1) := by decide +kernel
theorem dL_law_787 : decode code 787 = .ok (.aload_n 0, 1) := by decide +kernel
theorem dL_law_788 : decode code 788 = .ok (.iload 5, 2) := by decide +kernel
theorem dL_law_790 : decode code 790 = .ok (.iconst 2, 1) := by decide +kernel
theorem dL_law_791 : decode code 791 = .ok (.iadd, 1) := by decide +kernel
theorem dL_law_792 : decode code 792 = .ok (.iaload, 1) := by decide +kernel
theorem dL_law_793 : decode code 793 = .ok (.aload_n 3, 1) := by decide +kernel
theorem dL_law_794 : decode code 794 = .ok (.invokestatic 168, 3) := by decide +kernel
theorem dL_law_797 : decode code 797 = .ok (.istore 6, 2) := by decide +kernel
theorem dL_law_799 : decode code 799 = .ok (.aload_n 2, 1) := by decide +kernel
theorem dL_law_800 : decode code 800 = .ok (.aload_n 0, 1) := by decide +kernel
theorem dL_law_801 : decode code 801 = .ok (.iload 5, 2) := by decide +kernel
theorem dL_law_803 : decode code 803 = .ok (.iconst 1, 1) := by decide +kernel
theorem dL_law_804 : decode code 804 = .ok (.iadd, 1) := by decide +kernel
theorem dL_law_805 : decode code 805 = .ok (.iaload, 1) := by decide +kernel
theorem dL_law_806 : decode code 806 = .ok (.aload_n 0, 1) := by decide +kernel
theorem dL_law_807 : decode code 807 = .ok (.iload 5, 2) := by decide +kernel
theorem dL_law_809 : decode code 809 = .ok (.iconst 2, 1) := by decide +kernel
theorem dL_law_810 : decode code 810 = .ok (.iadd, 1) := by decide +kernel
theorem dL_law_811 : decode code 811 = .ok (.iaload, 1) := by decide +kernel
theorem dL_law_812 : decode code 812 = .ok (.invokevirtual 170, 3) := by decide +kernel
theorem dL_law_815 : decode code 815 = .ok (.istore 7, 2) := by decide +kernel
theorem dL_law_817 : decode code 817 = .ok (.aload_n 2, 1) := by decide +kernel
theorem dL_law_818 : decode code 818 = .ok (.invokevirtual 149, 3) := by decide +kernel
theorem dL_law_821 : decode code 821 = .ok (.iload 6, 2) := by decide +kernel
theorem dL_law_823 : decode code 823 = .ok (.if_icmp .eq 5, 3) := by decide +kernel
theorem dL_law_826 : decode code 826 = .ok (.iconst 0, 1) := by decide +kernel
theorem dL_law_828 : decode code 828 = .ok (.iload 6, 2) := by decide +kernel
theorem dL_law_830 : decode code 830 = .ok (.ifCond .ne 22, 3) := by decide +kernel
theorem dL_law_833 : decode code 833 = .ok (.aload_n 3, 1) := by decide +kernel
theorem dL_law_834 : decode code 834 = .ok (.iconst 0, 1) := by decide +kernel
theorem dL_law_835 : decode code 835 = .ok (.laload, 1) := by decide +kernel
theorem dL_law_836 : decode code 836 = .ok (.iload 7, 2) := by decide +kernel
theorem dL_law_838 : decode code 838 = .ok (.ifCond .eq 7, 3) := by decide +kernel
theorem dL_law_841 : decode code 841 = .ok (.lconst 1, 1) := by decide +kernel
theorem dL_law_842 : decode code 842 = .ok (.goto 4, 3) := by decide +kernel
theorem dL_law_845 : decode code 845 = .ok (.lconst 0, 1) := by decide +kernel
theorem dL_law_846 : decode code 846 = .ok (.lcmp, 1) := by decide +kernel
theorem dL_law_847 : decode code 847 = .ok (.ifCond .eq 5, 3) := by decide +kernel
theorem dL_law_850 : decode code 850 = .ok (.iconst 0, 1) := by decide +kernel
theorem dL_law_852 : decode code 852 = .ok (.goto 1667, 3) := by decide +kernel
theorem dL_law_855 : decode code 855 = .ok (.aload_n 1, 1) := by decide +kernel
theorem dL_law_856 : decode code 856 = .ok (.aload_n 0, 1) := by decide +kernel
theorem dL_law_857 : decode code 857 = .ok (.iload 5, 2) := by decide +kernel
theorem dL_law_859 : decode code 859 = .ok (.iconst 1, 1) := by decide +kernel
theorem dL_law_860 : decode code 860 = .ok (.iadd, 1) := by decide +kernel
theorem dL_law_861 : decode code 861 = .ok (.iaload, 1) := by decide +kernel
theorem dL_law_862 : decode code 862 = .ok (.aload_n 3, 1) := by decide +kernel
theorem dL_law_863 : decode code 863 = .ok (.invokestatic 171, 3) := by decide +kernel
theorem dL_law_866 : decode code 866 = .ok (.istore 6, 2) := by decide +kernel
theorem dL_law_868 : decode code 868 = .ok (.aload_n 2, 1) := by decide +kernel
theorem dL_law_869 : decode code 869 = .ok (.aload_n 0, 1) := by decide +kernel
theorem dL_law_870 : decode code 870 = .ok (.iload 5, 2) := by decide +kernel
theorem dL_law_872 : decode code 872 = .ok (.iconst 1, 1) := by decide +kernel
theorem dL_law_873 : decode code 873 = .ok (.iadd, 1) := by decide +kernel
theorem dL_law_874 : decode code 874 = .ok (.iaload, 1) := by decide +kernel
theorem dL_law_875 : decode code 875 = .ok (.invokevirtual 173, 3) := by decide +kernel
theorem dL_law_878 : decode code 878 = .ok (.istore 7, 2) := by decide +kernel
theorem dL_law_880 : decode code 880 = .ok (.aload_n 2, 1) := by decide +kernel
theorem dL_law_881 : decode code 881 = .ok (.invokevirtual 149, 3) := by decide +kernel
theorem dL_law_884 : decode code 884 = .ok (.iload 6, 2) := by decide +kernel
theorem dL_law_886 : decode code 886 = .ok (.if_icmp .eq 5, 3) := by decide +kernel
theorem dL_law_889 : decode code 889 = .ok (.iconst 0, 1) := by decide +kernel
theorem dL_law_891 : decode code 891 = .ok (.iload 6, 2) := by decide +kernel
theorem dL_law_893 : decode code 893 = .ok (.ifCond .ne 15, 3) := by decide +kernel
theorem dL_law_896 : decode code 896 = .ok (.aload_n 3, 1) := by decide +kernel
theorem dL_law_897 : decode code 897 = .ok (.iconst 0, 1) := by decide +kernel
theorem dL_law_898 : decode code 898 = .ok (.laload, 1) := by decide +kernel
theorem dL_law_899 : decode code 899 = .ok (.iload 7, 2) := by decide +kernel
theorem dL_law_901 : decode code 901 = .ok (.i2l, 1) := by decide +kernel
theorem dL_law_902 : decode code 902 = .ok (.lcmp, 1) := by decide +kernel
theorem dL_law_903 : decode code 903 = .ok (.ifCond .eq 5, 3) := by decide +kernel
theorem dL_law_906 : decode code 906 = .ok (.iconst 0, 1) := by decide +kernel
theorem dL_law_908 : decode code 908 = .ok (.goto 1611, 3) := by decide +kernel
theorem dL_law_911 : decode code 911 = .ok (.aload_n 1, 1) := by decide +kernel
theorem dL_law_912 : decode code 912 = .ok (.aload_n 0, 1) := by decide +kernel
theorem dL_law_913 : decode code 913 = .ok (.iload 5, 2) := by decide +kernel
theorem dL_law_915 : decode code 915 = .ok (.iconst 1, 1) := by decide +kernel
theorem dL_law_916 : decode code 916 = .ok (.iadd, 1) := by decide +kernel
theorem dL_law_917 : decode code 917 = .ok (.iaload, 1) := by decide +kernel
theorem dL_law_918 : decode code 918 = .ok (.aload_n 0, 1) := by decide +kernel
theorem dL_law_919 : decode code 919 = .ok (.iload 5, 2) := by decide +kernel
theorem dL_law_921 : decode code 921 = .ok (.iconst 2, 1) := by decide +kernel
theorem dL_law_922 : decode code 922 = .ok (.iadd, 1) := by decide +kernel
theorem dL_law_923 : decode code 923 = .ok (.iaload, 1) := by decide +kernel
theorem dL_law_924 : decode code 924 = .ok (.aload_n 3, 1) := by decide +kernel
theorem dL_law_925 : decode code 925 = .ok (.invokestatic 174, 3) := by decide +kernel
theorem dL_law_928 : decode code 928 = .ok (.istore 6, 2) := by decide +kernel
theorem dL_law_930 : decode code 930 = .ok (.aload_n 2, 1) := by decide +kernel
theorem dL_law_931 : decode code 931 = .ok (.aload_n 0, 1) := by decide +kernel
theorem dL_law_932 : decode code 932 = .ok (.iload 5, 2) := by decide +kernel
theorem dL_law_934 : decode code 934 = .ok (.iconst 1, 1) := by decide +kernel
theorem dL_law_935 : decode code 935 = .ok (.iadd, 1) := by decide +kernel
theorem dL_law_936 : decode code 936 = .ok (.iaload, 1) := by decide +kernel
theorem dL_law_937 : decode code 937 = .ok (.aload_n 0, 1) := by decide +kernel
theorem dL_law_938 : decode code 938 = .ok (.iload 5, 2) := by decide +kernel
theorem dL_law_940 : decode code 940 = .ok (.iconst 2, 1) := by decide +kernel
theorem dL_law_941 : decode code 941 = .ok (.iadd, 1) := by decide +kernel
theorem dL_law_942 : decode code 942 = .ok (.iaload, 1) := by decide +kernel
theorem dL_law_943 : decode code 943 = .ok (.invokevirtual 176, 3) := by decide +kernel
theorem dL_law_946 : decode code 946 = .ok (.istore 7, 2) := by decide +kernel
theorem dL_law_948 : decode code 948 = .ok (.aload_n 2, 1) := by decide +kernel
theorem dL_law_949 : decode code 949 = .ok (.invokevirtual 149, 3) := by decide +kernel
theorem dL_law_952 : decode code 952 = .ok (.iload 6, 2) := by decide +kernel
theorem dL_law_954 : decode code 954 = .ok (.if_icmp .eq 5, 3) := by decide +kernel
theorem dL_law_957 : decode code 957 = .ok (.iconst 0, 1) := by decide +kernel
theorem dL_law_959 : decode code 959 = .ok (.iload 6, 2) := by decide +kernel
theorem dL_law_961 : decode code 961 = .ok (.ifCond .ne 15, 3) := by decide +kernel
theorem dL_law_964 : decode code 964 = .ok (.aload_n 3, 1) := by decide +kernel
theorem dL_law_965 : decode code 965 = .ok (.iconst 0, 1) := by decide +kernel
theorem dL_law_966 : decode code 966 = .ok (.laload, 1) := by decide +kernel
theorem dL_law_967 : decode code 967 = .ok (.iload 7, 2) := by decide +kernel
theorem dL_law_969 : decode code 969 = .ok (.i2l, 1) := by decide +kernel
theorem dL_law_970 : decode code 970 = .ok (.lcmp, 1) := by decide +kernel
theorem dL_law_971 : decode code 971 = .ok (.ifCond .eq 5, 3) := by decide +kernel
theorem dL_law_974 : decode code 974 = .ok (.iconst 0, 1) := by decide +kernel
theorem dL_law_976 : decode code 976 = .ok (.goto 1543, 3) := by decide +kernel
theorem dL_law_979 : decode code 979 = .ok (.aload_n 1, 1) := by decide +kernel
theorem dL_law_980 : decode code 980 = .ok (.aload_n 0, 1) := by decide +kernel
theorem dL_law_981 : decode code 981 = .ok (.iload 5, 2) := by decide +kernel
theorem dL_law_983 : decode code 983 = .ok (.iconst 1, 1) := by decide +kernel
theorem dL_law_984 : decode code 984 = .ok (.iadd, 1) := by decide +kernel
theorem dL_law_985 : decode code 985 = .ok (.iaload, 1) := by decide +kernel
theorem dL_law_986 : decode code 986 = .ok (.aload_n 0, 1) := by decide +kernel
theorem dL_law_987 : decode code 987 = .ok (.iload 5, 2) := by decide +kernel
theorem dL_law_989 : decode code 989 = .ok (.iconst 2, 1) := by decide +kernel
theorem dL_law_990 : decode code 990 = .ok (.iadd, 1) := by decide +kernel
theorem dL_law_991 : decode code 991 = .ok (.iaload, 1) := by decide +kernel
theorem dL_law_992 : decode code 992 = .ok (.aload_n 3, 1) := by decide +kernel
theorem dL_law_993 : decode code 993 = .ok (.invokestatic 177, 3) := by decide +kernel
theorem dL_law_996 : decode code 996 = .ok (.istore 6, 2) := by decide +kernel
theorem dL_law_998 : decode code 998 = .ok (.aload_n 2, 1) := by decide +kernel
theorem dL_law_999 : decode code 999 = .ok (.aload_n 0, 1) := by decide +kernel
theorem dL_law_1000 : decode code 1000 = .ok (.iload 5, 2) := by decide +kernel
theorem dL_law_1002 : decode code 1002 = .ok (.iconst 1, 1) := by decide +kernel
theorem dL_law_1003 : decode code 1003 = .ok (.iadd, 1) := by decide +kernel
theorem dL_law_1004 : decode code 1004 = .ok (.iaload, 1) := by decide +kernel
theorem dL_law_1005 : decode code 1005 = .ok (.aload_n 0, 1) := by decide +kernel
theorem dL_law_1006 : decode code 1006 = .ok (.iload 5, 2) := by decide +kernel
theorem dL_law_1008 : decode code 1008 = .ok (.iconst 2, 1) := by decide +kernel
theorem dL_law_1009 : decode code 1009 = .ok (.iadd, 1) := by decide +kernel
theorem dL_law_1010 : decode code 1010 = .ok (.iaload, 1) := by decide +kernel
theorem dL_law_1011 : decode code 1011 = .ok (.invokevirtual 179, 3) := by decide +kernel
theorem dL_law_1014 : decode code 1014 = .ok (.istore 7, 2) := by decide +kernel
theorem dL_law_1016 : decode code 1016 = .ok (.aload_n 2, 1) := by decide +kernel
theorem dL_law_1017 : decode code 1017 = .ok (.invokevirtual 149, 3) := by decide +kernel
theorem dL_law_1020 : decode code 1020 = .ok (.iload 6, 2) := by decide +kernel
theorem dL_law_1022 : decode code 1022 = .ok (.if_icmp .eq 5, 3) := by decide +kernel
theorem dL_law_1025 : decode code 1025 = .ok (.iconst 0, 1) := by decide +kernel
theorem dL_law_1027 : decode code 1027 = .ok (.iload 6, 2) := by decide +kernel
theorem dL_law_1029 : decode code 1029 = .ok (.ifCond .ne 15, 3) := by decide +kernel
theorem dL_law_1032 : decode code 1032 = .ok (.aload_n 3, 1) := by decide +kernel
theorem dL_law_1033 : decode code 1033 = .ok (.iconst 0, 1) := by decide +kernel
theorem dL_law_1034 : decode code 1034 = .ok (.laload, 1) := by decide +kernel
theorem dL_law_1035 : decode code 1035 = .ok (.iload 7, 2) := by decide +kernel
theorem dL_law_1037 : decode code 1037 = .ok (.i2l, 1) := by decide +kernel
theorem dL_law_1038 : decode code 1038 = .ok (.lcmp, 1) := by decide +kernel
theorem dL_law_1039 : decode code 1039 = .ok (.ifCond .eq 5, 3) := by decide +kernel
theorem dL_law_1042 : decode code 1042 = .ok (.iconst 0, 1) := by decide +kernel
theorem dL_law_1044 : decode code 1044 = .ok (.goto 1475, 3) := by decide +kernel
theorem dL_law_1047 : decode code 1047 = .ok (.aload_n 1, 1) := by decide +kernel
theorem dL_law_1048 : decode code 1048 = .ok (.aload_n 0, 1) := by decide +kernel
theorem dL_law_1049 : decode code 1049 = .ok (.iload 5, 2) := by decide +kernel
theorem dL_law_1051 : decode code 1051 = .ok (.iconst 1, 1) := by decide +kernel
theorem dL_law_1052 : decode code 1052 = .ok (.iadd, 1) := by decide +kernel
theorem dL_law_1053 : decode code 1053 = .ok (.iaload, 1) := by decide +kernel
theorem dL_law_1054 : decode code 1054 = .ok (.aload_n 0, 1) := by decide +kernel
theorem dL_law_1055 : decode code 1055 = .ok (.iload 5, 2) := by decide +kernel
theorem dL_law_1057 : decode code 1057 = .ok (.iconst 2, 1) := by decide +kernel
theorem dL_law_1058 : decode code 1058 = .ok (.iadd, 1) := by decide +kernel
theorem dL_law_1059 : decode code 1059 = .ok (.iaload, 1) := by decide +kernel
theorem dL_law_1060 : decode code 1060 = .ok (.aload_n 0, 1) := by decide +kernel
theorem dL_law_1061 : decode code 1061 = .ok (.iload 5, 2) := by decide +kernel
theorem dL_law_1063 : decode code 1063 = .ok (.iconst 3, 1) := by decide +kernel
theorem dL_law_1064 : decode code 1064 = .ok (.iadd, 1) := by decide +kernel
theorem dL_law_1065 : decode code 1065 = .ok (.iaload, 1) := by decide +kernel
theorem dL_law_1066 : decode code 1066 = .ok (.aload_n 3, 1) := by decide +kernel
theorem dL_law_1067 : decode code 1067 = .ok (.invokestatic 180, 3) := by decide +kernel
theorem dL_law_1070 : decode code 1070 = .ok (.istore 6, 2) := by decide +kernel
theorem dL_law_1072 : decode code 1072 = .ok (.aload_n 2, 1) := by decide +kernel
theorem dL_law_1073 : decode code 1073 = .ok (.aload_n 0, 1) := by decide +kernel
theorem dL_law_1074 : decode code 1074 = .ok (.iload 5, 2) := by decide +kernel
theorem dL_law_1076 : decode code 1076 = .ok (.iconst 1, 1) := by decide +kernel
theorem dL_law_1077 : decode code 1077 = .ok (.iadd, 1) := by decide +kernel
theorem dL_law_1078 : decode code 1078 = .ok (.iaload, 1) := by decide +kernel
theorem dL_law_1079 : decode code 1079 = .ok (.aload_n 0, 1) := by decide +kernel
theorem dL_law_1080 : decode code 1080 = .ok (.iload 5, 2) := by decide +kernel
theorem dL_law_1082 : decode code 1082 = .ok (.iconst 2, 1) := by decide +kernel
theorem dL_law_1083 : decode code 1083 = .ok (.iadd, 1) := by decide +kernel
theorem dL_law_1084 : decode code 1084 = .ok (.iaload, 1) := by decide +kernel
theorem dL_law_1085 : decode code 1085 = .ok (.aload_n 0, 1) := by decide +kernel
theorem dL_law_1086 : decode code 1086 = .ok (.iload 5, 2) := by decide +kernel
theorem dL_law_1088 : decode code 1088 = .ok (.iconst 3, 1) := by decide +kernel
theorem dL_law_1089 : decode code 1089 = .ok (.iadd, 1) := by decide +kernel
theorem dL_law_1090 : decode code 1090 = .ok (.iaload, 1) := by decide +kernel
theorem dL_law_1091 : decode code 1091 = .ok (.invokevirtual 183, 3) := by decide +kernel
theorem dL_law_1094 : decode code 1094 = .ok (.istore 7, 2) := by decide +kernel
theorem dL_law_1096 : decode code 1096 = .ok (.aload_n 2, 1) := by decide +kernel
theorem dL_law_1097 : decode code 1097 = .ok (.invokevirtual 149, 3) := by decide +kernel
theorem dL_law_1100 : decode code 1100 = .ok (.iload 6, 2) := by decide +kernel
theorem dL_law_1102 : decode code 1102 = .ok (.if_icmp .eq 5, 3) := by decide +kernel
theorem dL_law_1105 : decode code 1105 = .ok (.iconst 0, 1) := by decide +kernel
theorem dL_law_1107 : decode code 1107 = .ok (.iload 6, 2) := by decide +kernel
theorem dL_law_1109 : decode code 1109 = .ok (.ifCond .ne 15, 3) := by decide +kernel
theorem dL_law_1112 : decode code 1112 = .ok (.aload_n 3, 1) := by decide +kernel
theorem dL_law_1113 : decode code 1113 = .ok (.iconst 0, 1) := by decide +kernel
theorem dL_law_1114 : decode code 1114 = .ok (.laload, 1) := by decide +kernel
theorem dL_law_1115 : decode code 1115 = .ok (.iload 7, 2) := by decide +kernel
theorem dL_law_1117 : decode code 1117 = .ok (.i2l, 1) := by decide +kernel
theorem dL_law_1118 : decode code 1118 = .ok (.lcmp, 1) := by decide +kernel
theorem dL_law_1119 : decode code 1119 = .ok (.ifCond .eq 5, 3) := by decide +kernel
theorem dL_law_1122 : decode code 1122 = .ok (.iconst 0, 1) := by decide +kernel
theorem dL_law_1124 : decode code 1124 = .ok (.goto 1395, 3) := by decide +kernel
theorem dL_law_1127 : decode code 1127 = .ok (.aload_n 1, 1) := by decide +kernel
theorem dL_law_1128 : decode code 1128 = .ok (.aload_n 0, 1) := by decide +kernel
theorem dL_law_1129 : decode code 1129 = .ok (.iload 5, 2) := by decide +kernel
theorem dL_law_1131 : decode code 1131 = .ok (.iconst 1, 1) := by decide +kernel
theorem dL_law_1132 : decode code 1132 = .ok (.iadd, 1) := by decide +kernel
theorem dL_law_1133 : decode code 1133 = .ok (.iaload, 1) := by decide +kernel
theorem dL_law_1134 : decode code 1134 = .ok (.aload_n 0, 1) := by decide +kernel
theorem dL_law_1135 : decode code 1135 = .ok (.iload 5, 2) := by decide +kernel
theorem dL_law_1137 : decode code 1137 = .ok (.iconst 2, 1) := by decide +kernel
theorem dL_law_1138 : decode code 1138 = .ok (.iadd, 1) := by decide +kernel
theorem dL_law_1139 : decode code 1139 = .ok (.iaload, 1) := by decide +kernel
theorem dL_law_1140 : decode code 1140 = .ok (.aload_n 0, 1) := by decide +kernel
theorem dL_law_1141 : decode code 1141 = .ok (.iload 5, 2) := by decide +kernel
theorem dL_law_1143 : decode code 1143 = .ok (.iconst 3, 1) := by decide +kernel
