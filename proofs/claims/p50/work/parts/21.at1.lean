/-! Instructions, a row each (by program). -/
theorem at_271_699 : j_at 271 699 = some (.istore 4, 0, 0, 0) := by decide +kernel
theorem at_271_701 : j_at 271 701 = some (.iload 4, 0, 0, 0) := by decide +kernel
theorem at_271_703 : j_at 271 703 = some (.aload_n 1, 0, 0, 0) := by decide +kernel
theorem at_271_704 : j_at 271 704 = some (.iload 6, 0, 0, 0) := by decide +kernel
theorem at_271_706 : j_at 271 706 = some (.iconst 0, 0, 0, 0) := by decide +kernel
theorem at_271_707 : j_at 271 707 = some (.invokevirtual 97, 96, 2, 0) := by decide +kernel
theorem at_271_710 : j_at 271 710 = some (.iload 8, 0, 0, 0) := by decide +kernel
theorem at_271_712 : j_at 271 712 = some (.bipush 28, 0, 0, 28) := by decide +kernel
theorem at_271_714 : j_at 271 714 = some (.ishr, 0, 0, 0) := by decide +kernel
theorem at_271_715 : j_at 271 715 = some (.iconst 1, 0, 0, 1) := by decide +kernel
theorem at_271_716 : j_at 271 716 = some (.iand, 0, 0, 0) := by decide +kernel
theorem at_271_717 : j_at 271 717 = some (.ifCond .ne 9, 726, 0, 0) := by decide +kernel
theorem at_271_720 : j_at 271 720 = some (.sipush 1000, 0, 0, 1000) := by decide +kernel
theorem at_271_723 : j_at 271 723 = some (.goto 6, 729, 0, 0) := by decide +kernel
theorem at_271_726 : j_at 271 726 = some (.sipush 1001, 0, 0, 1001) := by decide +kernel
theorem at_271_729 : j_at 271 729 = some (.if_icmp .ne 23, 752, 0, 0) := by decide +kernel
theorem at_271_732 : j_at 271 732 = some (.aload_n 1, 0, 0, 0) := by decide +kernel
theorem at_271_733 : j_at 271 733 = some (.iload 6, 0, 0, 0) := by decide +kernel
theorem at_271_735 : j_at 271 735 = some (.iconst 1, 0, 0, 1) := by decide +kernel
theorem at_271_736 : j_at 271 736 = some (.invokevirtual 97, 96, 2, 0) := by decide +kernel
theorem at_271_739 : j_at 271 739 = some (.sipush 1000, 0, 0, 1000) := by decide +kernel
theorem at_271_742 : j_at 271 742 = some (.iload 11, 0, 0, 0) := by decide +kernel
theorem at_271_744 : j_at 271 744 = some (.iadd, 0, 0, 0) := by decide +kernel
theorem at_271_745 : j_at 271 745 = some (.if_icmp .ne 7, 752, 0, 0) := by decide +kernel
theorem at_271_748 : j_at 271 748 = some (.iconst 1, 0, 0, 1) := by decide +kernel
theorem at_271_749 : j_at 271 749 = some (.goto 4, 753, 0, 0) := by decide +kernel
theorem at_271_752 : j_at 271 752 = some (.iconst 0, 0, 0, 0) := by decide +kernel
theorem at_271_753 : j_at 271 753 = some (.iand, 0, 0, 0) := by decide +kernel
theorem at_271_754 : j_at 271 754 = some (.istore 4, 0, 0, 0) := by decide +kernel
theorem at_271_756 : j_at 271 756 = some (.iconst 0, 0, 0, 0) := by decide +kernel
theorem at_271_757 : j_at 271 757 = some (.istore 13, 0, 0, 0) := by decide +kernel
theorem at_271_759 : j_at 271 759 = some (.iload 13, 0, 0, 0) := by decide +kernel
theorem at_271_761 : j_at 271 761 = some (.iload_n 3, 0, 0, 0) := by decide +kernel
theorem at_271_762 : j_at 271 762 = some (.if_icmp .ge 41, 803, 0, 0) := by decide +kernel
theorem at_271_765 : j_at 271 765 = some (.iload 4, 0, 0, 0) := by decide +kernel
theorem at_271_767 : j_at 271 767 = some (.aload_n 1, 0, 0, 0) := by decide +kernel
theorem at_271_768 : j_at 271 768 = some (.iload 6, 0, 0, 0) := by decide +kernel
theorem at_271_770 : j_at 271 770 = some (.iconst 2, 0, 0, 2) := by decide +kernel
theorem at_271_771 : j_at 271 771 = some (.iload 13, 0, 0, 0) := by decide +kernel
theorem at_271_773 : j_at 271 773 = some (.iadd, 0, 0, 0) := by decide +kernel
theorem at_271_774 : j_at 271 774 = some (.invokevirtual 97, 96, 2, 0) := by decide +kernel
theorem at_271_777 : j_at 271 777 = some (.sipush 1000, 0, 0, 1000) := by decide +kernel
theorem at_271_780 : j_at 271 780 = some (.aload 9, 0, 0, 0) := by decide +kernel
theorem at_271_782 : j_at 271 782 = some (.iload 13, 0, 0, 0) := by decide +kernel
theorem at_271_784 : j_at 271 784 = some (.iaload, 0, 0, 0) := by decide +kernel
theorem at_271_785 : j_at 271 785 = some (.iadd, 0, 0, 0) := by decide +kernel
theorem at_271_786 : j_at 271 786 = some (.if_icmp .ne 7, 793, 0, 0) := by decide +kernel
theorem at_271_789 : j_at 271 789 = some (.iconst 1, 0, 0, 1) := by decide +kernel
theorem at_271_790 : j_at 271 790 = some (.goto 4, 794, 0, 0) := by decide +kernel
theorem at_271_793 : j_at 271 793 = some (.iconst 0, 0, 0, 0) := by decide +kernel
theorem at_271_794 : j_at 271 794 = some (.iand, 0, 0, 0) := by decide +kernel
theorem at_271_795 : j_at 271 795 = some (.istore 4, 0, 0, 0) := by decide +kernel
theorem at_271_797 : j_at 271 797 = some (.iinc 13 1, 0, 0, 0) := by decide +kernel
theorem at_271_800 : j_at 271 800 = some (.goto (-41), 759, 0, 0) := by decide +kernel
theorem at_271_803 : j_at 271 803 = some (.iinc 6 1, 0, 0, 0) := by decide +kernel
theorem at_271_806 : j_at 271 806 = some (.iinc 7 1, 0, 0, 0) := by decide +kernel
theorem at_271_809 : j_at 271 809 = some (.goto (-704), 105, 0, 0) := by decide +kernel
theorem at_271_812 : j_at 271 812 = some (.bipush 100, 0, 0, 100) := by decide +kernel
theorem at_271_814 : j_at 271 814 = some (.newarray .int, 0, 0, 0) := by decide +kernel
theorem at_271_816 : j_at 271 816 = some (.astore 7, 0, 0, 0) := by decide +kernel
theorem at_271_818 : j_at 271 818 = some (.iconst 0, 0, 0, 0) := by decide +kernel
theorem at_271_819 : j_at 271 819 = some (.istore 8, 0, 0, 0) := by decide +kernel
theorem at_271_821 : j_at 271 821 = some (.iconst 0, 0, 0, 0) := by decide +kernel
theorem at_271_822 : j_at 271 822 = some (.istore 9, 0, 0, 0) := by decide +kernel
theorem at_271_824 : j_at 271 824 = some (.iload 9, 0, 0, 0) := by decide +kernel
theorem at_271_826 : j_at 271 826 = some (.bipush 100, 0, 0, 100) := by decide +kernel
theorem at_271_828 : j_at 271 828 = some (.if_icmp .ge 16, 844, 0, 0) := by decide +kernel
theorem at_271_831 : j_at 271 831 = some (.aload 7, 0, 0, 0) := by decide +kernel
theorem at_271_833 : j_at 271 833 = some (.iload 9, 0, 0, 0) := by decide +kernel
theorem at_271_835 : j_at 271 835 = some (.bipush (-5), 0, 0, -5) := by decide +kernel
theorem at_271_837 : j_at 271 837 = some (.iastore, 0, 0, 0) := by decide +kernel
theorem at_271_838 : j_at 271 838 = some (.iinc 9 1, 0, 0, 0) := by decide +kernel
theorem at_271_841 : j_at 271 841 = some (.goto (-17), 824, 0, 0) := by decide +kernel
theorem at_271_844 : j_at 271 844 = some (.bipush 100, 0, 0, 100) := by decide +kernel
theorem at_271_846 : j_at 271 846 = some (.newarray .int, 0, 0, 0) := by decide +kernel
theorem at_271_848 : j_at 271 848 = some (.astore 9, 0, 0, 0) := by decide +kernel
theorem at_271_850 : j_at 271 850 = some (.iconst 0, 0, 0, 0) := by decide +kernel
theorem at_271_851 : j_at 271 851 = some (.istore 10, 0, 0, 0) := by decide +kernel
theorem at_271_853 : j_at 271 853 = some (.iload 10, 0, 0, 0) := by decide +kernel
theorem at_271_855 : j_at 271 855 = some (.bipush 8, 0, 0, 8) := by decide +kernel
theorem at_271_857 : j_at 271 857 = some (.if_icmp .ge 141, 998, 0, 0) := by decide +kernel
theorem at_271_860 : j_at 271 860 = some (.aload_n 0, 0, 0, 0) := by decide +kernel
theorem at_271_861 : j_at 271 861 = some (.bipush 10, 0, 0, 10) := by decide +kernel
theorem at_271_863 : j_at 271 863 = some (.iload 10, 0, 0, 0) := by decide +kernel
theorem at_271_865 : j_at 271 865 = some (.iadd, 0, 0, 0) := by decide +kernel
theorem at_271_866 : j_at 271 866 = some (.invokestatic 25, 308, 2, 0) := by decide +kernel
theorem at_271_869 : j_at 271 869 = some (.istore 11, 0, 0, 0) := by decide +kernel
theorem at_271_871 : j_at 271 871 = some (.iload 11, 0, 0, 0) := by decide +kernel
theorem at_271_873 : j_at 271 873 = some (.bipush 127, 0, 0, 127) := by decide +kernel
theorem at_271_875 : j_at 271 875 = some (.iand, 0, 0, 0) := by decide +kernel
theorem at_271_876 : j_at 271 876 = some (.bipush 100, 0, 0, 100) := by decide +kernel
theorem at_271_878 : j_at 271 878 = some (.irem, 0, 0, 0) := by decide +kernel
theorem at_271_879 : j_at 271 879 = some (.istore 12, 0, 0, 0) := by decide +kernel
theorem at_271_881 : j_at 271 881 = some (.iload 12, 0, 0, 0) := by decide +kernel
theorem at_271_883 : j_at 271 883 = some (.istore 13, 0, 0, 0) := by decide +kernel
theorem at_271_885 : j_at 271 885 = some (.iconst 0, 0, 0, 0) := by decide +kernel
theorem at_271_886 : j_at 271 886 = some (.istore 14, 0, 0, 0) := by decide +kernel
theorem at_271_888 : j_at 271 888 = some (.aload 5, 0, 0, 0) := by decide +kernel
theorem at_271_890 : j_at 271 890 = some (.iload_n 3, 0, 0, 0) := by decide +kernel
theorem at_271_891 : j_at 271 891 = some (.iconst 1, 0, 0, 1) := by decide +kernel
theorem at_271_892 : j_at 271 892 = some (.isub, 0, 0, 0) := by decide +kernel
theorem at_271_893 : j_at 271 893 = some (.iaload, 0, 0, 0) := by decide +kernel
theorem at_271_894 : j_at 271 894 = some (.iload 13, 0, 0, 0) := by decide +kernel
theorem at_271_896 : j_at 271 896 = some (.bipush 10, 0, 0, 10) := by decide +kernel
theorem at_271_898 : j_at 271 898 = some (.irem, 0, 0, 0) := by decide +kernel
theorem at_271_899 : j_at 271 899 = some (.imul, 0, 0, 0) := by decide +kernel
theorem at_271_900 : j_at 271 900 = some (.aload 5, 0, 0, 0) := by decide +kernel
theorem at_271_902 : j_at 271 902 = some (.iload_n 3, 0, 0, 0) := by decide +kernel
theorem at_271_903 : j_at 271 903 = some (.iconst 2, 0, 0, 2) := by decide +kernel
theorem at_271_904 : j_at 271 904 = some (.isub, 0, 0, 0) := by decide +kernel
theorem at_271_905 : j_at 271 905 = some (.iaload, 0, 0, 0) := by decide +kernel
theorem at_271_906 : j_at 271 906 = some (.iload 13, 0, 0, 0) := by decide +kernel
theorem at_271_908 : j_at 271 908 = some (.bipush 10, 0, 0, 10) := by decide +kernel
theorem at_271_910 : j_at 271 910 = some (.idiv, 0, 0, 0) := by decide +kernel
theorem at_271_911 : j_at 271 911 = some (.imul, 0, 0, 0) := by decide +kernel
theorem at_271_912 : j_at 271 912 = some (.iadd, 0, 0, 0) := by decide +kernel
theorem at_271_913 : j_at 271 913 = some (.istore 14, 0, 0, 0) := by decide +kernel
theorem at_271_915 : j_at 271 915 = some (.iload 11, 0, 0, 0) := by decide +kernel
theorem at_271_917 : j_at 271 917 = some (.bipush 7, 0, 0, 7) := by decide +kernel
theorem at_271_919 : j_at 271 919 = some (.ishr, 0, 0, 0) := by decide +kernel
theorem at_271_920 : j_at 271 920 = some (.bipush 127, 0, 0, 127) := by decide +kernel
theorem at_271_922 : j_at 271 922 = some (.iand, 0, 0, 0) := by decide +kernel
theorem at_271_923 : j_at 271 923 = some (.istore 15, 0, 0, 0) := by decide +kernel
theorem at_271_925 : j_at 271 925 = some (.iload 4, 0, 0, 0) := by decide +kernel
theorem at_271_927 : j_at 271 927 = some (.aload_n 1, 0, 0, 0) := by decide +kernel
theorem at_271_928 : j_at 271 928 = some (.iload 12, 0, 0, 0) := by decide +kernel
theorem at_271_930 : j_at 271 930 = some (.iload 15, 0, 0, 0) := by decide +kernel
theorem at_271_932 : j_at 271 932 = some (.invokevirtual 100, 121, 2, 0) := by decide +kernel
theorem at_271_935 : j_at 271 935 = some (.aload 7, 0, 0, 0) := by decide +kernel
theorem at_271_937 : j_at 271 937 = some (.iload 12, 0, 0, 0) := by decide +kernel
theorem at_271_939 : j_at 271 939 = some (.iaload, 0, 0, 0) := by decide +kernel
theorem at_271_940 : j_at 271 940 = some (.if_icmp .ne 16, 956, 0, 0) := by decide +kernel
theorem at_271_943 : j_at 271 943 = some (.aload_n 1, 0, 0, 0) := by decide +kernel
theorem at_271_944 : j_at 271 944 = some (.iload 14, 0, 0, 0) := by decide +kernel
theorem at_271_946 : j_at 271 946 = some (.invokevirtual 103, 123, 1, 0) := by decide +kernel
theorem at_271_949 : j_at 271 949 = some (.ifCond .lt 7, 956, 0, 0) := by decide +kernel
theorem at_271_952 : j_at 271 952 = some (.iconst 1, 0, 0, 1) := by decide +kernel
theorem at_271_953 : j_at 271 953 = some (.goto 4, 957, 0, 0) := by decide +kernel
theorem at_271_956 : j_at 271 956 = some (.iconst 0, 0, 0, 0) := by decide +kernel
theorem at_271_957 : j_at 271 957 = some (.iand, 0, 0, 0) := by decide +kernel
theorem at_271_958 : j_at 271 958 = some (.istore 4, 0, 0, 0) := by decide +kernel
theorem at_271_960 : j_at 271 960 = some (.iload 8, 0, 0, 0) := by decide +kernel
theorem at_271_962 : j_at 271 962 = some (.aload 7, 0, 0, 0) := by decide +kernel
theorem at_271_964 : j_at 271 964 = some (.iload 12, 0, 0, 0) := by decide +kernel
theorem at_271_966 : j_at 271 966 = some (.iaload, 0, 0, 0) := by decide +kernel
theorem at_271_967 : j_at 271 967 = some (.ifCond .ge 7, 974, 0, 0) := by decide +kernel
theorem at_271_970 : j_at 271 970 = some (.iconst 1, 0, 0, 1) := by decide +kernel
theorem at_271_971 : j_at 271 971 = some (.goto 4, 975, 0, 0) := by decide +kernel
theorem at_271_974 : j_at 271 974 = some (.iconst 0, 0, 0, 0) := by decide +kernel
theorem at_271_975 : j_at 271 975 = some (.iadd, 0, 0, 0) := by decide +kernel
theorem at_271_976 : j_at 271 976 = some (.istore 8, 0, 0, 0) := by decide +kernel
theorem at_271_978 : j_at 271 978 = some (.aload 7, 0, 0, 0) := by decide +kernel
theorem at_271_980 : j_at 271 980 = some (.iload 12, 0, 0, 0) := by decide +kernel
theorem at_271_982 : j_at 271 982 = some (.iload 15, 0, 0, 0) := by decide +kernel
theorem at_271_984 : j_at 271 984 = some (.iastore, 0, 0, 0) := by decide +kernel
theorem at_271_985 : j_at 271 985 = some (.aload 9, 0, 0, 0) := by decide +kernel
theorem at_271_987 : j_at 271 987 = some (.iload 12, 0, 0, 0) := by decide +kernel
theorem at_271_989 : j_at 271 989 = some (.iload 14, 0, 0, 0) := by decide +kernel
theorem at_271_991 : j_at 271 991 = some (.iastore, 0, 0, 0) := by decide +kernel
theorem at_271_992 : j_at 271 992 = some (.iinc 10 1, 0, 0, 0) := by decide +kernel
theorem at_271_995 : j_at 271 995 = some (.goto (-142), 853, 0, 0) := by decide +kernel
theorem at_271_998 : j_at 271 998 = some (.iconst (-1), 0, 0, -1) := by decide +kernel
theorem at_271_999 : j_at 271 999 = some (.istore 10, 0, 0, 0) := by decide +kernel
theorem at_271_1001 : j_at 271 1001 = some (.iconst (-1), 0, 0, -1) := by decide +kernel
theorem at_271_1002 : j_at 271 1002 = some (.istore 11, 0, 0, 0) := by decide +kernel
theorem at_271_1004 : j_at 271 1004 = some (.iconst 0, 0, 0, 0) := by decide +kernel
theorem at_271_1005 : j_at 271 1005 = some (.istore 12, 0, 0, 0) := by decide +kernel
theorem at_271_1007 : j_at 271 1007 = some (.iload 12, 0, 0, 0) := by decide +kernel
theorem at_271_1009 : j_at 271 1009 = some (.iload 8, 0, 0, 0) := by decide +kernel
theorem at_271_1011 : j_at 271 1011 = some (.if_icmp .ge 159, 1170, 0, 0) := by decide +kernel
theorem at_271_1014 : j_at 271 1014 = some (.aload_n 1, 0, 0, 0) := by decide +kernel
theorem at_271_1015 : j_at 271 1015 = some (.iload 12, 0, 0, 0) := by decide +kernel
theorem at_271_1017 : j_at 271 1017 = some (.iconst 0, 0, 0, 0) := by decide +kernel
theorem at_271_1018 : j_at 271 1018 = some (.invokevirtual 106, 122, 2, 0) := by decide +kernel
theorem at_271_1021 : j_at 271 1021 = some (.istore 13, 0, 0, 0) := by decide +kernel
theorem at_271_1023 : j_at 271 1023 = some (.iload 4, 0, 0, 0) := by decide +kernel
theorem at_271_1025 : j_at 271 1025 = some (.iload 13, 0, 0, 0) := by decide +kernel
theorem at_271_1027 : j_at 271 1027 = some (.ifCond .lt 90, 1117, 0, 0) := by decide +kernel
theorem at_271_1030 : j_at 271 1030 = some (.iload 13, 0, 0, 0) := by decide +kernel
theorem at_271_1032 : j_at 271 1032 = some (.bipush 100, 0, 0, 100) := by decide +kernel
theorem at_271_1034 : j_at 271 1034 = some (.if_icmp .ge 83, 1117, 0, 0) := by decide +kernel
theorem at_271_1037 : j_at 271 1037 = some (.aload 7, 0, 0, 0) := by decide +kernel
theorem at_271_1039 : j_at 271 1039 = some (.iload 13, 0, 0, 0) := by decide +kernel
theorem at_271_1041 : j_at 271 1041 = some (.iaload, 0, 0, 0) := by decide +kernel
theorem at_271_1042 : j_at 271 1042 = some (.ifCond .lt 75, 1117, 0, 0) := by decide +kernel
theorem at_271_1045 : j_at 271 1045 = some (.aload_n 1, 0, 0, 0) := by decide +kernel
theorem at_271_1046 : j_at 271 1046 = some (.iload 12, 0, 0, 0) := by decide +kernel
theorem at_271_1048 : j_at 271 1048 = some (.iconst 1, 0, 0, 1) := by decide +kernel
theorem at_271_1049 : j_at 271 1049 = some (.invokevirtual 106, 122, 2, 0) := by decide +kernel
theorem at_271_1052 : j_at 271 1052 = some (.aload 7, 0, 0, 0) := by decide +kernel
theorem at_271_1054 : j_at 271 1054 = some (.iload 13, 0, 0, 0) := by decide +kernel
theorem at_271_1056 : j_at 271 1056 = some (.iaload, 0, 0, 0) := by decide +kernel
theorem at_271_1057 : j_at 271 1057 = some (.if_icmp .ne 60, 1117, 0, 0) := by decide +kernel
theorem at_271_1060 : j_at 271 1060 = some (.aload_n 1, 0, 0, 0) := by decide +kernel
theorem at_271_1061 : j_at 271 1061 = some (.iload 12, 0, 0, 0) := by decide +kernel
theorem at_271_1063 : j_at 271 1063 = some (.iconst 2, 0, 0, 2) := by decide +kernel
theorem at_271_1064 : j_at 271 1064 = some (.invokevirtual 106, 122, 2, 0) := by decide +kernel
theorem at_271_1067 : j_at 271 1067 = some (.aload 9, 0, 0, 0) := by decide +kernel
theorem at_271_1069 : j_at 271 1069 = some (.iload 13, 0, 0, 0) := by decide +kernel
theorem at_271_1071 : j_at 271 1071 = some (.iaload, 0, 0, 0) := by decide +kernel
theorem at_271_1072 : j_at 271 1072 = some (.if_icmp .ne 45, 1117, 0, 0) := by decide +kernel
theorem at_271_1075 : j_at 271 1075 = some (.iload 10, 0, 0, 0) := by decide +kernel
theorem at_271_1077 : j_at 271 1077 = some (.ifCond .lt 36, 1113, 0, 0) := by decide +kernel
theorem at_271_1080 : j_at 271 1080 = some (.aload 9, 0, 0, 0) := by decide +kernel
theorem at_271_1082 : j_at 271 1082 = some (.iload 10, 0, 0, 0) := by decide +kernel
theorem at_271_1084 : j_at 271 1084 = some (.iaload, 0, 0, 0) := by decide +kernel
theorem at_271_1085 : j_at 271 1085 = some (.aload 9, 0, 0, 0) := by decide +kernel
theorem at_271_1087 : j_at 271 1087 = some (.iload 13, 0, 0, 0) := by decide +kernel
theorem at_271_1089 : j_at 271 1089 = some (.iaload, 0, 0, 0) := by decide +kernel
theorem at_271_1090 : j_at 271 1090 = some (.if_icmp .lt 23, 1113, 0, 0) := by decide +kernel
theorem at_271_1093 : j_at 271 1093 = some (.aload 9, 0, 0, 0) := by decide +kernel
theorem at_271_1095 : j_at 271 1095 = some (.iload 10, 0, 0, 0) := by decide +kernel
theorem at_271_1097 : j_at 271 1097 = some (.iaload, 0, 0, 0) := by decide +kernel
theorem at_271_1098 : j_at 271 1098 = some (.aload 9, 0, 0, 0) := by decide +kernel
theorem at_271_1100 : j_at 271 1100 = some (.iload 13, 0, 0, 0) := by decide +kernel
theorem at_271_1102 : j_at 271 1102 = some (.iaload, 0, 0, 0) := by decide +kernel
theorem at_271_1103 : j_at 271 1103 = some (.if_icmp .ne 14, 1117, 0, 0) := by decide +kernel
theorem at_271_1106 : j_at 271 1106 = some (.iload 10, 0, 0, 0) := by decide +kernel
theorem at_271_1108 : j_at 271 1108 = some (.iload 13, 0, 0, 0) := by decide +kernel
theorem at_271_1110 : j_at 271 1110 = some (.if_icmp .ge 7, 1117, 0, 0) := by decide +kernel
theorem at_271_1113 : j_at 271 1113 = some (.iconst 1, 0, 0, 1) := by decide +kernel
theorem at_271_1114 : j_at 271 1114 = some (.goto 4, 1118, 0, 0) := by decide +kernel
theorem at_271_1117 : j_at 271 1117 = some (.iconst 0, 0, 0, 0) := by decide +kernel
theorem at_271_1118 : j_at 271 1118 = some (.iand, 0, 0, 0) := by decide +kernel
theorem at_271_1119 : j_at 271 1119 = some (.istore 4, 0, 0, 0) := by decide +kernel
theorem at_271_1121 : j_at 271 1121 = some (.iload 11, 0, 0, 0) := by decide +kernel
theorem at_271_1123 : j_at 271 1123 = some (.ifCond .lt 28, 1151, 0, 0) := by decide +kernel
theorem at_271_1126 : j_at 271 1126 = some (.aload 7, 0, 0, 0) := by decide +kernel
theorem at_271_1128 : j_at 271 1128 = some (.iload 13, 0, 0, 0) := by decide +kernel
theorem at_271_1130 : j_at 271 1130 = some (.iaload, 0, 0, 0) := by decide +kernel
theorem at_271_1131 : j_at 271 1131 = some (.aload 9, 0, 0, 0) := by decide +kernel
theorem at_271_1133 : j_at 271 1133 = some (.iload 13, 0, 0, 0) := by decide +kernel
theorem at_271_1135 : j_at 271 1135 = some (.iaload, 0, 0, 0) := by decide +kernel
theorem at_271_1136 : j_at 271 1136 = some (.isub, 0, 0, 0) := by decide +kernel
theorem at_271_1137 : j_at 271 1137 = some (.aload 7, 0, 0, 0) := by decide +kernel
theorem at_271_1139 : j_at 271 1139 = some (.iload 11, 0, 0, 0) := by decide +kernel
theorem at_271_1141 : j_at 271 1141 = some (.iaload, 0, 0, 0) := by decide +kernel
theorem at_271_1142 : j_at 271 1142 = some (.aload 9, 0, 0, 0) := by decide +kernel
theorem at_271_1144 : j_at 271 1144 = some (.iload 11, 0, 0, 0) := by decide +kernel
theorem at_271_1146 : j_at 271 1146 = some (.iaload, 0, 0, 0) := by decide +kernel
theorem at_271_1147 : j_at 271 1147 = some (.isub, 0, 0, 0) := by decide +kernel
theorem at_271_1148 : j_at 271 1148 = some (.if_icmp .le 8, 1156, 0, 0) := by decide +kernel
theorem at_271_1151 : j_at 271 1151 = some (.iload 13, 0, 0, 0) := by decide +kernel
theorem at_271_1153 : j_at 271 1153 = some (.goto 5, 1158, 0, 0) := by decide +kernel
theorem at_271_1156 : j_at 271 1156 = some (.iload 11, 0, 0, 0) := by decide +kernel
theorem at_271_1158 : j_at 271 1158 = some (.istore 11, 0, 0, 0) := by decide +kernel
theorem at_271_1160 : j_at 271 1160 = some (.iload 13, 0, 0, 0) := by decide +kernel
theorem at_271_1162 : j_at 271 1162 = some (.istore 10, 0, 0, 0) := by decide +kernel
theorem at_271_1164 : j_at 271 1164 = some (.iinc 12 1, 0, 0, 0) := by decide +kernel
theorem at_271_1167 : j_at 271 1167 = some (.goto (-160), 1007, 0, 0) := by decide +kernel
theorem at_271_1170 : j_at 271 1170 = some (.iload 4, 0, 0, 0) := by decide +kernel
theorem at_271_1172 : j_at 271 1172 = some (.aload_n 1, 0, 0, 0) := by decide +kernel
theorem at_271_1173 : j_at 271 1173 = some (.bipush 7, 0, 0, 7) := by decide +kernel
theorem at_271_1175 : j_at 271 1175 = some (.invokevirtual 86, 130, 1, 0) := by decide +kernel
theorem at_271_1178 : j_at 271 1178 = some (.iload 8, 0, 0, 0) := by decide +kernel
theorem at_271_1180 : j_at 271 1180 = some (.if_icmp .ne 49, 1229, 0, 0) := by decide +kernel
theorem at_271_1183 : j_at 271 1183 = some (.aload_n 1, 0, 0, 0) := by decide +kernel
theorem at_271_1184 : j_at 271 1184 = some (.iload 8, 0, 0, 0) := by decide +kernel
theorem at_271_1186 : j_at 271 1186 = some (.iconst 0, 0, 0, 0) := by decide +kernel
theorem at_271_1187 : j_at 271 1187 = some (.invokevirtual 106, 122, 2, 0) := by decide +kernel
theorem at_271_1190 : j_at 271 1190 = some (.bipush (-2), 0, 0, -2) := by decide +kernel
theorem at_271_1192 : j_at 271 1192 = some (.if_icmp .ne 37, 1229, 0, 0) := by decide +kernel
theorem at_271_1195 : j_at 271 1195 = some (.aload_n 1, 0, 0, 0) := by decide +kernel
theorem at_271_1196 : j_at 271 1196 = some (.invokevirtual 109, 124, 0, 0) := by decide +kernel
theorem at_271_1199 : j_at 271 1199 = some (.iload 11, 0, 0, 0) := by decide +kernel
theorem at_271_1201 : j_at 271 1201 = some (.if_icmp .ne 28, 1229, 0, 0) := by decide +kernel
theorem at_271_1204 : j_at 271 1204 = some (.aload_n 1, 0, 0, 0) := by decide +kernel
theorem at_271_1205 : j_at 271 1205 = some (.ldc 112, 0, 0, 1000000) := by decide +kernel
theorem at_271_1207 : j_at 271 1207 = some (.invokevirtual 103, 123, 1, 0) := by decide +kernel
theorem at_271_1210 : j_at 271 1210 = some (.iload 10, 0, 0, 0) := by decide +kernel
theorem at_271_1212 : j_at 271 1212 = some (.if_icmp .ne 17, 1229, 0, 0) := by decide +kernel
theorem at_271_1215 : j_at 271 1215 = some (.aload_n 1, 0, 0, 0) := by decide +kernel
theorem at_271_1216 : j_at 271 1216 = some (.iconst (-1), 0, 0, -1) := by decide +kernel
theorem at_271_1217 : j_at 271 1217 = some (.invokevirtual 103, 123, 1, 0) := by decide +kernel
theorem at_271_1220 : j_at 271 1220 = some (.bipush (-5), 0, 0, -5) := by decide +kernel
theorem at_271_1222 : j_at 271 1222 = some (.if_icmp .ne 7, 1229, 0, 0) := by decide +kernel
theorem at_271_1225 : j_at 271 1225 = some (.iconst 1, 0, 0, 1) := by decide +kernel
theorem at_271_1226 : j_at 271 1226 = some (.goto 4, 1230, 0, 0) := by decide +kernel
theorem at_271_1229 : j_at 271 1229 = some (.iconst 0, 0, 0, 0) := by decide +kernel
theorem at_271_1230 : j_at 271 1230 = some (.iand, 0, 0, 0) := by decide +kernel
theorem at_271_1231 : j_at 271 1231 = some (.istore 4, 0, 0, 0) := by decide +kernel
theorem at_271_1233 : j_at 271 1233 = some (.iload 4, 0, 0, 0) := by decide +kernel
theorem at_271_1235 : j_at 271 1235 = some (.ifCond .ne 5, 1240, 0, 0) := by decide +kernel
theorem at_271_1238 : j_at 271 1238 = some (.iconst 0, 0, 0, 0) := by decide +kernel
theorem at_271_1239 : j_at 271 1239 = some (.ireturn, 0, 0, 0) := by decide +kernel
theorem at_271_1240 : j_at 271 1240 = some (.iload_n 2, 0, 0, 0) := by decide +kernel
theorem at_271_1241 : j_at 271 1241 = some (.bipush 20, 0, 0, 20) := by decide +kernel
theorem at_271_1243 : j_at 271 1243 = some (.ishr, 0, 0, 0) := by decide +kernel
theorem at_271_1244 : j_at 271 1244 = some (.iconst 3, 0, 0, 3) := by decide +kernel
theorem at_271_1245 : j_at 271 1245 = some (.iand, 0, 0, 0) := by decide +kernel
theorem at_271_1246 : j_at 271 1246 = some (.iload 6, 0, 0, 0) := by decide +kernel
theorem at_271_1248 : j_at 271 1248 = some (.irem, 0, 0, 0) := by decide +kernel
theorem at_271_1249 : j_at 271 1249 = some (.istore 12, 0, 0, 0) := by decide +kernel
theorem at_271_1251 : j_at 271 1251 = some (.iload_n 2, 0, 0, 0) := by decide +kernel
theorem at_271_1252 : j_at 271 1252 = some (.bipush 22, 0, 0, 22) := by decide +kernel
theorem at_271_1254 : j_at 271 1254 = some (.ishr, 0, 0, 0) := by decide +kernel
theorem at_271_1255 : j_at 271 1255 = some (.bipush 63, 0, 0, 63) := by decide +kernel
theorem at_271_1257 : j_at 271 1257 = some (.iand, 0, 0, 0) := by decide +kernel
theorem at_271_1258 : j_at 271 1258 = some (.istore 13, 0, 0, 0) := by decide +kernel
theorem at_271_1260 : j_at 271 1260 = some (.aload_n 1, 0, 0, 0) := by decide +kernel
theorem at_271_1261 : j_at 271 1261 = some (.invokevirtual 113, 126, 0, 0) := by decide +kernel
theorem at_271_1264 : j_at 271 1264 = some (.istore 14, 0, 0, 0) := by decide +kernel
theorem at_271_1266 : j_at 271 1266 = some (.iload 4, 0, 0, 0) := by decide +kernel
theorem at_271_1268 : j_at 271 1268 = some (.aload_n 1, 0, 0, 0) := by decide +kernel
theorem at_271_1269 : j_at 271 1269 = some (.iconst 0, 0, 0, 0) := by decide +kernel
theorem at_271_1270 : j_at 271 1270 = some (.iload 12, 0, 0, 0) := by decide +kernel
theorem at_271_1272 : j_at 271 1272 = some (.iload 13, 0, 0, 0) := by decide +kernel
theorem at_271_1274 : j_at 271 1274 = some (.invokevirtual 116, 125, 3, 0) := by decide +kernel
theorem at_271_1277 : j_at 271 1277 = some (.iconst 1, 0, 0, 1) := by decide +kernel
theorem at_271_1278 : j_at 271 1278 = some (.if_icmp .ne 46, 1324, 0, 0) := by decide +kernel
theorem at_271_1281 : j_at 271 1281 = some (.aload_n 1, 0, 0, 0) := by decide +kernel
theorem at_271_1282 : j_at 271 1282 = some (.invokevirtual 113, 126, 0, 0) := by decide +kernel
theorem at_271_1285 : j_at 271 1285 = some (.aload_n 1, 0, 0, 0) := by decide +kernel
theorem at_271_1286 : j_at 271 1286 = some (.iload 12, 0, 0, 0) := by decide +kernel
theorem at_271_1288 : j_at 271 1288 = some (.iload 13, 0, 0, 0) := by decide +kernel
theorem at_271_1290 : j_at 271 1290 = some (.invokevirtual 119, 115, 2, 0) := by decide +kernel
theorem at_271_1293 : j_at 271 1293 = some (.if_icmp .ne 31, 1324, 0, 0) := by decide +kernel
theorem at_271_1296 : j_at 271 1296 = some (.aload_n 1, 0, 0, 0) := by decide +kernel
theorem at_271_1297 : j_at 271 1297 = some (.iconst 1, 0, 0, 1) := by decide +kernel
theorem at_271_1298 : j_at 271 1298 = some (.iconst 0, 0, 0, 0) := by decide +kernel
theorem at_271_1299 : j_at 271 1299 = some (.bipush 7, 0, 0, 7) := by decide +kernel
theorem at_271_1301 : j_at 271 1301 = some (.invokevirtual 116, 125, 3, 0) := by decide +kernel
theorem at_271_1304 : j_at 271 1304 = some (.iconst 2, 0, 0, 2) := by decide +kernel
theorem at_271_1305 : j_at 271 1305 = some (.if_icmp .ne 19, 1324, 0, 0) := by decide +kernel
theorem at_271_1308 : j_at 271 1308 = some (.aload_n 1, 0, 0, 0) := by decide +kernel
theorem at_271_1309 : j_at 271 1309 = some (.iconst 2, 0, 0, 2) := by decide +kernel
theorem at_271_1310 : j_at 271 1310 = some (.iload 12, 0, 0, 0) := by decide +kernel
theorem at_271_1312 : j_at 271 1312 = some (.iconst 3, 0, 0, 3) := by decide +kernel
theorem at_271_1313 : j_at 271 1313 = some (.invokevirtual 116, 125, 3, 0) := by decide +kernel
theorem at_271_1316 : j_at 271 1316 = some (.iconst 3, 0, 0, 3) := by decide +kernel
theorem at_271_1317 : j_at 271 1317 = some (.if_icmp .ne 7, 1324, 0, 0) := by decide +kernel
theorem at_271_1320 : j_at 271 1320 = some (.iconst 1, 0, 0, 1) := by decide +kernel
theorem at_271_1321 : j_at 271 1321 = some (.goto 4, 1325, 0, 0) := by decide +kernel
theorem at_271_1324 : j_at 271 1324 = some (.iconst 0, 0, 0, 0) := by decide +kernel
theorem at_271_1325 : j_at 271 1325 = some (.iand, 0, 0, 0) := by decide +kernel
theorem at_271_1326 : j_at 271 1326 = some (.istore 4, 0, 0, 0) := by decide +kernel
theorem at_271_1328 : j_at 271 1328 = some (.aload_n 1, 0, 0, 0) := by decide +kernel
theorem at_271_1329 : j_at 271 1329 = some (.invokevirtual 113, 126, 0, 0) := by decide +kernel
theorem at_271_1332 : j_at 271 1332 = some (.istore 15, 0, 0, 0) := by decide +kernel
theorem at_271_1334 : j_at 271 1334 = some (.iload 4, 0, 0, 0) := by decide +kernel
theorem at_271_1336 : j_at 271 1336 = some (.aload_n 1, 0, 0, 0) := by decide +kernel
theorem at_271_1337 : j_at 271 1337 = some (.invokevirtual 122, 128, 0, 0) := by decide +kernel
theorem at_271_1340 : j_at 271 1340 = some (.iload 6, 0, 0, 0) := by decide +kernel
theorem at_271_1342 : j_at 271 1342 = some (.if_icmp .ne 107, 1449, 0, 0) := by decide +kernel
theorem at_271_1345 : j_at 271 1345 = some (.aload_n 1, 0, 0, 0) := by decide +kernel
theorem at_271_1346 : j_at 271 1346 = some (.iload 12, 0, 0, 0) := by decide +kernel
theorem at_271_1348 : j_at 271 1348 = some (.iload 13, 0, 0, 0) := by decide +kernel
theorem at_271_1350 : j_at 271 1350 = some (.invokevirtual 125, 92, 2, 0) := by decide +kernel
theorem at_271_1353 : j_at 271 1353 = some (.sipush 901, 0, 0, 901) := by decide +kernel
theorem at_271_1356 : j_at 271 1356 = some (.if_icmp .lt 93, 1449, 0, 0) := by decide +kernel
theorem at_271_1359 : j_at 271 1359 = some (.aload_n 1, 0, 0, 0) := by decide +kernel
theorem at_271_1360 : j_at 271 1360 = some (.iconst 0, 0, 0, 0) := by decide +kernel
theorem at_271_1361 : j_at 271 1361 = some (.bipush 7, 0, 0, 7) := by decide +kernel
theorem at_271_1363 : j_at 271 1363 = some (.invokevirtual 47, 89, 2, 0) := by decide +kernel
theorem at_271_1366 : j_at 271 1366 = some (.aload 5, 0, 0, 0) := by decide +kernel
theorem at_271_1368 : j_at 271 1368 = some (.iconst 0, 0, 0, 0) := by decide +kernel
theorem at_271_1369 : j_at 271 1369 = some (.iaload, 0, 0, 0) := by decide +kernel
theorem at_271_1370 : j_at 271 1370 = some (.if_icmp .ne 79, 1449, 0, 0) := by decide +kernel
theorem at_271_1373 : j_at 271 1373 = some (.aload_n 1, 0, 0, 0) := by decide +kernel
theorem at_271_1374 : j_at 271 1374 = some (.bipush 7, 0, 0, 7) := by decide +kernel
theorem at_271_1376 : j_at 271 1376 = some (.invokevirtual 86, 130, 1, 0) := by decide +kernel
theorem at_271_1379 : j_at 271 1379 = some (.ifCond .ne 70, 1449, 0, 0) := by decide +kernel
theorem at_271_1382 : j_at 271 1382 = some (.aload_n 1, 0, 0, 0) := by decide +kernel
theorem at_271_1383 : j_at 271 1383 = some (.iload 12, 0, 0, 0) := by decide +kernel
theorem at_271_1385 : j_at 271 1385 = some (.iconst 0, 0, 0, 0) := by decide +kernel
theorem at_271_1386 : j_at 271 1386 = some (.iconst 3, 0, 0, 3) := by decide +kernel
theorem at_271_1387 : j_at 271 1387 = some (.invokevirtual 35, 91, 3, 0) := by decide +kernel
theorem at_271_1390 : j_at 271 1390 = some (.bipush 91, 0, 0, 91) := by decide +kernel
theorem at_271_1392 : j_at 271 1392 = some (.if_icmp .lt 57, 1449, 0, 0) := by decide +kernel
theorem at_271_1395 : j_at 271 1395 = some (.aload_n 1, 0, 0, 0) := by decide +kernel
theorem at_271_1396 : j_at 271 1396 = some (.iconst (-1), 0, 0, -1) := by decide +kernel
theorem at_271_1397 : j_at 271 1397 = some (.bipush 9, 0, 0, 9) := by decide +kernel
theorem at_271_1399 : j_at 271 1399 = some (.bipush 9, 0, 0, 9) := by decide +kernel
theorem at_271_1401 : j_at 271 1401 = some (.invokevirtual 116, 125, 3, 0) := by decide +kernel
theorem at_271_1404 : j_at 271 1404 = some (.ifCond .ne 45, 1449, 0, 0) := by decide +kernel
theorem at_271_1407 : j_at 271 1407 = some (.aload_n 1, 0, 0, 0) := by decide +kernel
theorem at_271_1408 : j_at 271 1408 = some (.invokevirtual 113, 126, 0, 0) := by decide +kernel
theorem at_271_1411 : j_at 271 1411 = some (.iload 15, 0, 0, 0) := by decide +kernel
theorem at_271_1413 : j_at 271 1413 = some (.if_icmp .ne 36, 1449, 0, 0) := by decide +kernel
theorem at_271_1416 : j_at 271 1416 = some (.aload_n 1, 0, 0, 0) := by decide +kernel
theorem at_271_1417 : j_at 271 1417 = some (.invokevirtual 128, 93, 0, 0) := by decide +kernel
theorem at_271_1420 : j_at 271 1420 = some (.iload 6, 0, 0, 0) := by decide +kernel
theorem at_271_1422 : j_at 271 1422 = some (.iconst 1, 0, 0, 1) := by decide +kernel
theorem at_271_1423 : j_at 271 1423 = some (.isub, 0, 0, 0) := by decide +kernel
theorem at_271_1424 : j_at 271 1424 = some (.if_icmp .ne 25, 1449, 0, 0) := by decide +kernel
theorem at_271_1427 : j_at 271 1427 = some (.aload_n 1, 0, 0, 0) := by decide +kernel
theorem at_271_1428 : j_at 271 1428 = some (.iconst 5, 0, 0, 5) := by decide +kernel
theorem at_271_1429 : j_at 271 1429 = some (.invokevirtual 44, 88, 1, 0) := by decide +kernel
theorem at_271_1432 : j_at 271 1432 = some (.iload_n 3, 0, 0, 0) := by decide +kernel
theorem at_271_1433 : j_at 271 1433 = some (.if_icmp .ne 16, 1449, 0, 0) := by decide +kernel
theorem at_271_1436 : j_at 271 1436 = some (.aload_n 1, 0, 0, 0) := by decide +kernel
theorem at_271_1437 : j_at 271 1437 = some (.invokevirtual 131, 129, 0, 0) := by decide +kernel
theorem at_271_1440 : j_at 271 1440 = some (.iload 6, 0, 0, 0) := by decide +kernel
theorem at_271_1442 : j_at 271 1442 = some (.if_icmp .ne 7, 1449, 0, 0) := by decide +kernel
theorem at_271_1445 : j_at 271 1445 = some (.iconst 1, 0, 0, 1) := by decide +kernel
theorem at_271_1446 : j_at 271 1446 = some (.goto 4, 1450, 0, 0) := by decide +kernel
theorem at_271_1449 : j_at 271 1449 = some (.iconst 0, 0, 0, 0) := by decide +kernel
theorem at_271_1450 : j_at 271 1450 = some (.iand, 0, 0, 0) := by decide +kernel
theorem at_271_1451 : j_at 271 1451 = some (.istore 4, 0, 0, 0) := by decide +kernel
theorem at_271_1453 : j_at 271 1453 = some (.iload 4, 0, 0, 0) := by decide +kernel
theorem at_271_1455 : j_at 271 1455 = some (.aload_n 1, 0, 0, 0) := by decide +kernel
theorem at_271_1456 : j_at 271 1456 = some (.iconst 0, 0, 0, 0) := by decide +kernel
theorem at_271_1457 : j_at 271 1457 = some (.invokevirtual 86, 130, 1, 0) := by decide +kernel
theorem at_271_1460 : j_at 271 1460 = some (.iload_n 3, 0, 0, 0) := by decide +kernel
theorem at_271_1461 : j_at 271 1461 = some (.if_icmp .ne 56, 1517, 0, 0) := by decide +kernel
theorem at_271_1464 : j_at 271 1464 = some (.aload_n 1, 0, 0, 0) := by decide +kernel
theorem at_271_1465 : j_at 271 1465 = some (.bipush 6, 0, 0, 6) := by decide +kernel
theorem at_271_1467 : j_at 271 1467 = some (.invokevirtual 86, 130, 1, 0) := by decide +kernel
theorem at_271_1470 : j_at 271 1470 = some (.iconst 3, 0, 0, 3) := by decide +kernel
theorem at_271_1471 : j_at 271 1471 = some (.if_icmp .ne 46, 1517, 0, 0) := by decide +kernel
theorem at_271_1474 : j_at 271 1474 = some (.aload_n 1, 0, 0, 0) := by decide +kernel
theorem at_271_1475 : j_at 271 1475 = some (.bipush 7, 0, 0, 7) := by decide +kernel
theorem at_271_1477 : j_at 271 1477 = some (.invokevirtual 86, 130, 1, 0) := by decide +kernel
theorem at_271_1480 : j_at 271 1480 = some (.iload 8, 0, 0, 0) := by decide +kernel
theorem at_271_1482 : j_at 271 1482 = some (.if_icmp .ne 35, 1517, 0, 0) := by decide +kernel
theorem at_271_1485 : j_at 271 1485 = some (.aload_n 1, 0, 0, 0) := by decide +kernel
theorem at_271_1486 : j_at 271 1486 = some (.invokevirtual 113, 126, 0, 0) := by decide +kernel
theorem at_271_1489 : j_at 271 1489 = some (.iload 15, 0, 0, 0) := by decide +kernel
theorem at_271_1491 : j_at 271 1491 = some (.if_icmp .ne 26, 1517, 0, 0) := by decide +kernel
theorem at_271_1494 : j_at 271 1494 = some (.aload_n 1, 0, 0, 0) := by decide +kernel
theorem at_271_1495 : j_at 271 1495 = some (.iconst (-1), 0, 0, -1) := by decide +kernel
theorem at_271_1496 : j_at 271 1496 = some (.iconst 0, 0, 0, 0) := by decide +kernel
theorem at_271_1497 : j_at 271 1497 = some (.iconst 0, 0, 0, 0) := by decide +kernel
theorem at_271_1498 : j_at 271 1498 = some (.invokevirtual 116, 125, 3, 0) := by decide +kernel
theorem at_271_1501 : j_at 271 1501 = some (.ifCond .ne 16, 1517, 0, 0) := by decide +kernel
theorem at_271_1504 : j_at 271 1504 = some (.aload_n 1, 0, 0, 0) := by decide +kernel
theorem at_271_1505 : j_at 271 1505 = some (.invokevirtual 113, 126, 0, 0) := by decide +kernel
theorem at_271_1508 : j_at 271 1508 = some (.iload 14, 0, 0, 0) := by decide +kernel
theorem at_271_1510 : j_at 271 1510 = some (.if_icmp .ne 7, 1517, 0, 0) := by decide +kernel
theorem at_271_1513 : j_at 271 1513 = some (.iconst 1, 0, 0, 1) := by decide +kernel
theorem at_271_1514 : j_at 271 1514 = some (.goto 4, 1518, 0, 0) := by decide +kernel
theorem at_271_1517 : j_at 271 1517 = some (.iconst 0, 0, 0, 0) := by decide +kernel
theorem at_271_1518 : j_at 271 1518 = some (.iand, 0, 0, 0) := by decide +kernel
theorem at_271_1519 : j_at 271 1519 = some (.istore 4, 0, 0, 0) := by decide +kernel
theorem at_271_1521 : j_at 271 1521 = some (.aload_n 1, 0, 0, 0) := by decide +kernel
theorem at_271_1522 : j_at 271 1522 = some (.iload_n 2, 0, 0, 0) := by decide +kernel
theorem at_271_1523 : j_at 271 1523 = some (.iconst 1, 0, 0, 1) := by decide +kernel
theorem at_271_1524 : j_at 271 1524 = some (.iload_n 2, 0, 0, 0) := by decide +kernel
theorem at_271_1525 : j_at 271 1525 = some (.iconst 3, 0, 0, 3) := by decide +kernel
theorem at_271_1526 : j_at 271 1526 = some (.iand, 0, 0, 0) := by decide +kernel
theorem at_271_1527 : j_at 271 1527 = some (.iadd, 0, 0, 0) := by decide +kernel
theorem at_271_1528 : j_at 271 1528 = some (.invokevirtual 134, 120, 2, 0) := by decide +kernel
theorem at_271_1531 : j_at 271 1531 = some (.istore 16, 0, 0, 0) := by decide +kernel
theorem at_271_1533 : j_at 271 1533 = some (.iload 4, 0, 0, 0) := by decide +kernel
theorem at_271_1535 : j_at 271 1535 = some (.iload 16, 0, 0, 0) := by decide +kernel
theorem at_271_1537 : j_at 271 1537 = some (.bipush (-6), 0, 0, -6) := by decide +kernel
theorem at_271_1539 : j_at 271 1539 = some (.if_icmp .lt 31, 1570, 0, 0) := by decide +kernel
theorem at_271_1542 : j_at 271 1542 = some (.iload 16, 0, 0, 0) := by decide +kernel
theorem at_271_1544 : j_at 271 1544 = some (.aload_n 1, 0, 0, 0) := by decide +kernel
theorem at_271_1545 : j_at 271 1545 = some (.iload_n 2, 0, 0, 0) := by decide +kernel
theorem at_271_1546 : j_at 271 1546 = some (.iconst 1, 0, 0, 1) := by decide +kernel
theorem at_271_1547 : j_at 271 1547 = some (.iload_n 2, 0, 0, 0) := by decide +kernel
theorem at_271_1548 : j_at 271 1548 = some (.iconst 3, 0, 0, 3) := by decide +kernel
theorem at_271_1549 : j_at 271 1549 = some (.iand, 0, 0, 0) := by decide +kernel
theorem at_271_1550 : j_at 271 1550 = some (.iadd, 0, 0, 0) := by decide +kernel
theorem at_271_1551 : j_at 271 1551 = some (.invokevirtual 134, 120, 2, 0) := by decide +kernel
theorem at_271_1554 : j_at 271 1554 = some (.if_icmp .ne 16, 1570, 0, 0) := by decide +kernel
theorem at_271_1557 : j_at 271 1557 = some (.aload_n 1, 0, 0, 0) := by decide +kernel
theorem at_271_1558 : j_at 271 1558 = some (.invokevirtual 113, 126, 0, 0) := by decide +kernel
theorem at_271_1561 : j_at 271 1561 = some (.iload 14, 0, 0, 0) := by decide +kernel
theorem at_271_1563 : j_at 271 1563 = some (.if_icmp .ne 7, 1570, 0, 0) := by decide +kernel
theorem at_271_1566 : j_at 271 1566 = some (.iconst 1, 0, 0, 1) := by decide +kernel
theorem at_271_1567 : j_at 271 1567 = some (.goto 4, 1571, 0, 0) := by decide +kernel
theorem at_271_1570 : j_at 271 1570 = some (.iconst 0, 0, 0, 0) := by decide +kernel
theorem at_271_1571 : j_at 271 1571 = some (.iand, 0, 0, 0) := by decide +kernel
theorem at_271_1572 : j_at 271 1572 = some (.istore 4, 0, 0, 0) := by decide +kernel
theorem at_271_1574 : j_at 271 1574 = some (.iload 4, 0, 0, 0) := by decide +kernel
theorem at_271_1576 : j_at 271 1576 = some (.aload_n 1, 0, 0, 0) := by decide +kernel
theorem at_271_1577 : j_at 271 1577 = some (.iconst 0, 0, 0, 0) := by decide +kernel
theorem at_271_1578 : j_at 271 1578 = some (.iload_n 2, 0, 0, 0) := by decide +kernel
theorem at_271_1579 : j_at 271 1579 = some (.bipush 8, 0, 0, 8) := by decide +kernel
theorem at_271_1581 : j_at 271 1581 = some (.ishr, 0, 0, 0) := by decide +kernel
theorem at_271_1582 : j_at 271 1582 = some (.iconst 3, 0, 0, 3) := by decide +kernel
theorem at_271_1583 : j_at 271 1583 = some (.iand, 0, 0, 0) := by decide +kernel
theorem at_271_1584 : j_at 271 1584 = some (.invokevirtual 137, 116, 2, 0) := by decide +kernel
theorem at_271_1587 : j_at 271 1587 = some (.iconst 1, 0, 0, 1) := by decide +kernel
theorem at_271_1588 : j_at 271 1588 = some (.if_icmp .ne 7, 1595, 0, 0) := by decide +kernel
theorem at_271_1591 : j_at 271 1591 = some (.iconst 1, 0, 0, 1) := by decide +kernel
theorem at_271_1592 : j_at 271 1592 = some (.goto 4, 1596, 0, 0) := by decide +kernel
theorem at_271_1595 : j_at 271 1595 = some (.iconst 0, 0, 0, 0) := by decide +kernel
theorem at_271_1596 : j_at 271 1596 = some (.iand, 0, 0, 0) := by decide +kernel
theorem at_271_1597 : j_at 271 1597 = some (.istore 4, 0, 0, 0) := by decide +kernel
theorem at_271_1599 : j_at 271 1599 = some (.aload_n 1, 0, 0, 0) := by decide +kernel
theorem at_271_1600 : j_at 271 1600 = some (.iload 12, 0, 0, 0) := by decide +kernel
theorem at_271_1602 : j_at 271 1602 = some (.iconst 0, 0, 0, 0) := by decide +kernel
theorem at_271_1603 : j_at 271 1603 = some (.invokevirtual 140, 117, 2, 0) := by decide +kernel
theorem at_271_1606 : j_at 271 1606 = some (.istore 17, 0, 0, 0) := by decide +kernel
theorem at_271_1608 : j_at 271 1608 = some (.aload_n 1, 0, 0, 0) := by decide +kernel
theorem at_271_1609 : j_at 271 1609 = some (.iload 12, 0, 0, 0) := by decide +kernel
theorem at_271_1611 : j_at 271 1611 = some (.iconst 1, 0, 0, 1) := by decide +kernel
theorem at_271_1612 : j_at 271 1612 = some (.invokevirtual 140, 117, 2, 0) := by decide +kernel
theorem at_271_1615 : j_at 271 1615 = some (.istore 18, 0, 0, 0) := by decide +kernel
theorem at_271_1617 : j_at 271 1617 = some (.iconst 0, 0, 0, 0) := by decide +kernel
theorem at_271_1618 : j_at 271 1618 = some (.istore 19, 0, 0, 0) := by decide +kernel
theorem at_271_1620 : j_at 271 1620 = some (.bipush (-5), 0, 0, -5) := by decide +kernel
theorem at_271_1622 : j_at 271 1622 = some (.istore 20, 0, 0, 0) := by decide +kernel
theorem at_271_1624 : j_at 271 1624 = some (.iconst 0, 0, 0, 0) := by decide +kernel
theorem at_271_1625 : j_at 271 1625 = some (.istore 21, 0, 0, 0) := by decide +kernel
theorem at_271_1627 : j_at 271 1627 = some (.iload 21, 0, 0, 0) := by decide +kernel
theorem at_271_1629 : j_at 271 1629 = some (.bipush 50, 0, 0, 50) := by decide +kernel
theorem at_271_1631 : j_at 271 1631 = some (.if_icmp .ge 77, 1708, 0, 0) := by decide +kernel
theorem at_271_1634 : j_at 271 1634 = some (.iload 4, 0, 0, 0) := by decide +kernel
theorem at_271_1636 : j_at 271 1636 = some (.aload_n 1, 0, 0, 0) := by decide +kernel
theorem at_271_1637 : j_at 271 1637 = some (.iload 12, 0, 0, 0) := by decide +kernel
theorem at_271_1639 : j_at 271 1639 = some (.iload 21, 0, 0, 0) := by decide +kernel
theorem at_271_1641 : j_at 271 1641 = some (.invokevirtual 125, 92, 2, 0) := by decide +kernel
theorem at_271_1644 : j_at 271 1644 = some (.sipush 901, 0, 0, 901) := by decide +kernel
theorem at_271_1647 : j_at 271 1647 = some (.if_icmp .lt 7, 1654, 0, 0) := by decide +kernel
theorem at_271_1650 : j_at 271 1650 = some (.iconst 1, 0, 0, 1) := by decide +kernel
theorem at_271_1651 : j_at 271 1651 = some (.goto 4, 1655, 0, 0) := by decide +kernel
theorem at_271_1654 : j_at 271 1654 = some (.iconst 0, 0, 0, 0) := by decide +kernel
theorem at_271_1655 : j_at 271 1655 = some (.iand, 0, 0, 0) := by decide +kernel
theorem at_271_1656 : j_at 271 1656 = some (.istore 4, 0, 0, 0) := by decide +kernel
theorem at_271_1658 : j_at 271 1658 = some (.aload_n 1, 0, 0, 0) := by decide +kernel
theorem at_271_1659 : j_at 271 1659 = some (.bipush 12, 0, 0, 12) := by decide +kernel
theorem at_271_1661 : j_at 271 1661 = some (.invokevirtual 143, 97, 1, 0) := by decide +kernel
theorem at_271_1664 : j_at 271 1664 = some (.iconst 1, 0, 0, 1) := by decide +kernel
theorem at_271_1665 : j_at 271 1665 = some (.if_icmp .ne 37, 1702, 0, 0) := by decide +kernel
theorem at_271_1668 : j_at 271 1668 = some (.aload_n 1, 0, 0, 0) := by decide +kernel
theorem at_271_1669 : j_at 271 1669 = some (.iconst 0, 0, 0, 0) := by decide +kernel
theorem at_271_1670 : j_at 271 1670 = some (.iconst 0, 0, 0, 0) := by decide +kernel
theorem at_271_1671 : j_at 271 1671 = some (.invokevirtual 146, 99, 2, 0) := by decide +kernel
theorem at_271_1674 : j_at 271 1674 = some (.iload_n 2, 0, 0, 0) := by decide +kernel
theorem at_271_1675 : j_at 271 1675 = some (.bipush 8, 0, 0, 8) := by decide +kernel
theorem at_271_1677 : j_at 271 1677 = some (.ishr, 0, 0, 0) := by decide +kernel
theorem at_271_1678 : j_at 271 1678 = some (.iconst 3, 0, 0, 3) := by decide +kernel
theorem at_271_1679 : j_at 271 1679 = some (.iand, 0, 0, 0) := by decide +kernel
theorem at_271_1680 : j_at 271 1680 = some (.i2l, 0, 0, 0) := by decide +kernel
theorem at_271_1681 : j_at 271 1681 = some (.lcmp, 0, 0, 0) := by decide +kernel
theorem at_271_1682 : j_at 271 1682 = some (.ifCond .ne 20, 1702, 0, 0) := by decide +kernel
theorem at_271_1685 : j_at 271 1685 = some (.iinc 19 1, 0, 0, 0) := by decide +kernel
theorem at_271_1688 : j_at 271 1688 = some (.iload 20, 0, 0, 0) := by decide +kernel
theorem at_271_1690 : j_at 271 1690 = some (.ifCond .ge 8, 1698, 0, 0) := by decide +kernel
theorem at_271_1693 : j_at 271 1693 = some (.iload 21, 0, 0, 0) := by decide +kernel
theorem at_271_1695 : j_at 271 1695 = some (.goto 5, 1700, 0, 0) := by decide +kernel
theorem at_271_1698 : j_at 271 1698 = some (.iload 20, 0, 0, 0) := by decide +kernel
theorem at_271_1700 : j_at 271 1700 = some (.istore 20, 0, 0, 0) := by decide +kernel
theorem at_271_1702 : j_at 271 1702 = some (.iinc 21 5, 0, 0, 0) := by decide +kernel
theorem at_271_1705 : j_at 271 1705 = some (.goto (-78), 1627, 0, 0) := by decide +kernel
theorem at_271_1708 : j_at 271 1708 = some (.iload 4, 0, 0, 0) := by decide +kernel
theorem at_271_1710 : j_at 271 1710 = some (.ifCond .eq 256, 1966, 0, 0) := by decide +kernel
theorem at_271_1713 : j_at 271 1713 = some (.iload 17, 0, 0, 0) := by decide +kernel
theorem at_271_1715 : j_at 271 1715 = some (.iload 19, 0, 0, 0) := by decide +kernel
theorem at_271_1717 : j_at 271 1717 = some (.if_icmp .ne 249, 1966, 0, 0) := by decide +kernel
theorem at_271_1720 : j_at 271 1720 = some (.iload 18, 0, 0, 0) := by decide +kernel
theorem at_271_1722 : j_at 271 1722 = some (.iload 20, 0, 0, 0) := by decide +kernel
theorem at_271_1724 : j_at 271 1724 = some (.if_icmp .ne 242, 1966, 0, 0) := by decide +kernel
theorem at_271_1727 : j_at 271 1727 = some (.aload_n 1, 0, 0, 0) := by decide +kernel
theorem at_271_1728 : j_at 271 1728 = some (.iconst (-1), 0, 0, -1) := by decide +kernel
theorem at_271_1729 : j_at 271 1729 = some (.iconst 0, 0, 0, 0) := by decide +kernel
theorem at_271_1730 : j_at 271 1730 = some (.invokevirtual 137, 116, 2, 0) := by decide +kernel
theorem at_271_1733 : j_at 271 1733 = some (.ifCond .ne 233, 1966, 0, 0) := by decide +kernel
theorem at_271_1736 : j_at 271 1736 = some (.aload_n 1, 0, 0, 0) := by decide +kernel
theorem at_271_1737 : j_at 271 1737 = some (.iload 12, 0, 0, 0) := by decide +kernel
theorem at_271_1739 : j_at 271 1739 = some (.iconst 0, 0, 0, 0) := by decide +kernel
theorem at_271_1740 : j_at 271 1740 = some (.invokevirtual 140, 117, 2, 0) := by decide +kernel
theorem at_271_1743 : j_at 271 1743 = some (.iload 19, 0, 0, 0) := by decide +kernel
theorem at_271_1745 : j_at 271 1745 = some (.if_icmp .lt 221, 1966, 0, 0) := by decide +kernel
theorem at_271_1748 : j_at 271 1748 = some (.aload_n 1, 0, 0, 0) := by decide +kernel
theorem at_271_1749 : j_at 271 1749 = some (.iconst 0, 0, 0, 0) := by decide +kernel
theorem at_271_1750 : j_at 271 1750 = some (.invokevirtual 150, 119, 1, 0) := by decide +kernel
theorem at_271_1753 : j_at 271 1753 = some (.iload_n 3, 0, 0, 0) := by decide +kernel
theorem at_271_1754 : j_at 271 1754 = some (.i2l, 0, 0, 0) := by decide +kernel
theorem at_271_1755 : j_at 271 1755 = some (.lmul, 0, 0, 0) := by decide +kernel
theorem at_271_1756 : j_at 271 1756 = some (.aload_n 1, 0, 0, 0) := by decide +kernel
theorem at_271_1757 : j_at 271 1757 = some (.iconst 1, 0, 0, 1) := by decide +kernel
theorem at_271_1758 : j_at 271 1758 = some (.invokevirtual 150, 119, 1, 0) := by decide +kernel
theorem at_271_1761 : j_at 271 1761 = some (.aload 5, 0, 0, 0) := by decide +kernel
theorem at_271_1763 : j_at 271 1763 = some (.iconst 0, 0, 0, 0) := by decide +kernel
theorem at_271_1764 : j_at 271 1764 = some (.iaload, 0, 0, 0) := by decide +kernel
theorem at_271_1765 : j_at 271 1765 = some (.aload 5, 0, 0, 0) := by decide +kernel
theorem at_271_1767 : j_at 271 1767 = some (.iconst 1, 0, 0, 1) := by decide +kernel
theorem at_271_1768 : j_at 271 1768 = some (.iaload, 0, 0, 0) := by decide +kernel
theorem at_271_1769 : j_at 271 1769 = some (.iadd, 0, 0, 0) := by decide +kernel
theorem at_271_1770 : j_at 271 1770 = some (.aload 5, 0, 0, 0) := by decide +kernel
theorem at_271_1772 : j_at 271 1772 = some (.iconst 2, 0, 0, 2) := by decide +kernel
theorem at_271_1773 : j_at 271 1773 = some (.iaload, 0, 0, 0) := by decide +kernel
theorem at_271_1774 : j_at 271 1774 = some (.iadd, 0, 0, 0) := by decide +kernel
theorem at_271_1775 : j_at 271 1775 = some (.aload 5, 0, 0, 0) := by decide +kernel
theorem at_271_1777 : j_at 271 1777 = some (.iconst 3, 0, 0, 3) := by decide +kernel
theorem at_271_1778 : j_at 271 1778 = some (.iaload, 0, 0, 0) := by decide +kernel
theorem at_271_1779 : j_at 271 1779 = some (.iadd, 0, 0, 0) := by decide +kernel
theorem at_271_1780 : j_at 271 1780 = some (.i2l, 0, 0, 0) := by decide +kernel
theorem at_271_1781 : j_at 271 1781 = some (.lmul, 0, 0, 0) := by decide +kernel
theorem at_271_1782 : j_at 271 1782 = some (.lcmp, 0, 0, 0) := by decide +kernel
theorem at_271_1783 : j_at 271 1783 = some (.ifCond .ne 183, 1966, 0, 0) := by decide +kernel
theorem at_271_1786 : j_at 271 1786 = some (.aload_n 1, 0, 0, 0) := by decide +kernel
theorem at_271_1787 : j_at 271 1787 = some (.iload_n 3, 0, 0, 0) := by decide +kernel
theorem at_271_1788 : j_at 271 1788 = some (.iconst 0, 0, 0, 0) := by decide +kernel
theorem at_271_1789 : j_at 271 1789 = some (.invokevirtual 137, 116, 2, 0) := by decide +kernel
theorem at_271_1792 : j_at 271 1792 = some (.iconst (-1), 0, 0, -1) := by decide +kernel
theorem at_271_1793 : j_at 271 1793 = some (.if_icmp .ne 173, 1966, 0, 0) := by decide +kernel
theorem at_271_1796 : j_at 271 1796 = some (.aload_n 1, 0, 0, 0) := by decide +kernel
theorem at_271_1797 : j_at 271 1797 = some (.iconst 0, 0, 0, 0) := by decide +kernel
theorem at_271_1798 : j_at 271 1798 = some (.sipush 1000, 0, 0, 1000) := by decide +kernel
theorem at_271_1801 : j_at 271 1801 = some (.invokevirtual 137, 116, 2, 0) := by decide +kernel
theorem at_271_1804 : j_at 271 1804 = some (.bipush (-2), 0, 0, -2) := by decide +kernel
theorem at_271_1806 : j_at 271 1806 = some (.if_icmp .ne 160, 1966, 0, 0) := by decide +kernel
theorem at_271_1809 : j_at 271 1809 = some (.aload_n 1, 0, 0, 0) := by decide +kernel
theorem at_271_1810 : j_at 271 1810 = some (.iload 6, 0, 0, 0) := by decide +kernel
theorem at_271_1812 : j_at 271 1812 = some (.iconst 0, 0, 0, 0) := by decide +kernel
theorem at_271_1813 : j_at 271 1813 = some (.invokevirtual 140, 117, 2, 0) := by decide +kernel
theorem at_271_1816 : j_at 271 1816 = some (.iconst (-1), 0, 0, -1) := by decide +kernel
theorem at_271_1817 : j_at 271 1817 = some (.if_icmp .ne 149, 1966, 0, 0) := by decide +kernel
theorem at_271_1820 : j_at 271 1820 = some (.aload_n 1, 0, 0, 0) := by decide +kernel
theorem at_271_1821 : j_at 271 1821 = some (.iconst (-1), 0, 0, -1) := by decide +kernel
theorem at_271_1822 : j_at 271 1822 = some (.iconst 0, 0, 0, 0) := by decide +kernel
theorem at_271_1823 : j_at 271 1823 = some (.invokevirtual 100, 121, 2, 0) := by decide +kernel
theorem at_271_1826 : j_at 271 1826 = some (.bipush (-2), 0, 0, -2) := by decide +kernel
theorem at_271_1828 : j_at 271 1828 = some (.if_icmp .ne 138, 1966, 0, 0) := by decide +kernel
theorem at_271_1831 : j_at 271 1831 = some (.aload_n 1, 0, 0, 0) := by decide +kernel
theorem at_271_1832 : j_at 271 1832 = some (.iconst 0, 0, 0, 0) := by decide +kernel
theorem at_271_1833 : j_at 271 1833 = some (.sipush 1000, 0, 0, 1000) := by decide +kernel
theorem at_271_1836 : j_at 271 1836 = some (.invokevirtual 100, 121, 2, 0) := by decide +kernel
theorem at_271_1839 : j_at 271 1839 = some (.bipush (-2), 0, 0, -2) := by decide +kernel
theorem at_271_1841 : j_at 271 1841 = some (.if_icmp .ne 125, 1966, 0, 0) := by decide +kernel
theorem at_271_1844 : j_at 271 1844 = some (.aload_n 1, 0, 0, 0) := by decide +kernel
theorem at_271_1845 : j_at 271 1845 = some (.iconst 3, 0, 0, 3) := by decide +kernel
theorem at_271_1846 : j_at 271 1846 = some (.iconst 0, 0, 0, 0) := by decide +kernel
theorem at_271_1847 : j_at 271 1847 = some (.iconst 0, 0, 0, 0) := by decide +kernel
theorem at_271_1848 : j_at 271 1848 = some (.invokevirtual 116, 125, 3, 0) := by decide +kernel
theorem at_271_1851 : j_at 271 1851 = some (.iconst (-1), 0, 0, -1) := by decide +kernel
theorem at_271_1852 : j_at 271 1852 = some (.if_icmp .ne 114, 1966, 0, 0) := by decide +kernel
theorem at_271_1855 : j_at 271 1855 = some (.aload_n 1, 0, 0, 0) := by decide +kernel
theorem at_271_1856 : j_at 271 1856 = some (.iconst 0, 0, 0, 0) := by decide +kernel
theorem at_271_1857 : j_at 271 1857 = some (.iload 6, 0, 0, 0) := by decide +kernel
theorem at_271_1859 : j_at 271 1859 = some (.iconst 0, 0, 0, 0) := by decide +kernel
theorem at_271_1860 : j_at 271 1860 = some (.invokevirtual 116, 125, 3, 0) := by decide +kernel
theorem at_271_1863 : j_at 271 1863 = some (.iconst (-1), 0, 0, -1) := by decide +kernel
theorem at_271_1864 : j_at 271 1864 = some (.if_icmp .ne 102, 1966, 0, 0) := by decide +kernel
theorem at_271_1867 : j_at 271 1867 = some (.aload_n 1, 0, 0, 0) := by decide +kernel
theorem at_271_1868 : j_at 271 1868 = some (.iconst 1, 0, 0, 1) := by decide +kernel
theorem at_271_1869 : j_at 271 1869 = some (.iconst 0, 0, 0, 0) := by decide +kernel
theorem at_271_1870 : j_at 271 1870 = some (.bipush 100, 0, 0, 100) := by decide +kernel
theorem at_271_1872 : j_at 271 1872 = some (.invokevirtual 116, 125, 3, 0) := by decide +kernel
theorem at_271_1875 : j_at 271 1875 = some (.bipush (-2), 0, 0, -2) := by decide +kernel
theorem at_271_1877 : j_at 271 1877 = some (.if_icmp .ne 89, 1966, 0, 0) := by decide +kernel
theorem at_271_1880 : j_at 271 1880 = some (.aload_n 1, 0, 0, 0) := by decide +kernel
theorem at_271_1881 : j_at 271 1881 = some (.iconst 0, 0, 0, 0) := by decide +kernel
theorem at_271_1882 : j_at 271 1882 = some (.iconst 5, 0, 0, 5) := by decide +kernel
theorem at_271_1883 : j_at 271 1883 = some (.iconst 1, 0, 0, 1) := by decide +kernel
theorem at_271_1884 : j_at 271 1884 = some (.invokevirtual 154, 131, 3, 0) := by decide +kernel
theorem at_271_1887 : j_at 271 1887 = some (.bipush (-2), 0, 0, -2) := by decide +kernel
theorem at_271_1889 : j_at 271 1889 = some (.if_icmp .ne 77, 1966, 0, 0) := by decide +kernel
theorem at_271_1892 : j_at 271 1892 = some (.aload_n 1, 0, 0, 0) := by decide +kernel
theorem at_271_1893 : j_at 271 1893 = some (.iconst 0, 0, 0, 0) := by decide +kernel
theorem at_271_1894 : j_at 271 1894 = some (.iconst 0, 0, 0, 0) := by decide +kernel
theorem at_271_1895 : j_at 271 1895 = some (.bipush 61, 0, 0, 61) := by decide +kernel
theorem at_271_1897 : j_at 271 1897 = some (.invokevirtual 154, 131, 3, 0) := by decide +kernel
theorem at_271_1900 : j_at 271 1900 = some (.bipush (-2), 0, 0, -2) := by decide +kernel
theorem at_271_1902 : j_at 271 1902 = some (.if_icmp .ne 64, 1966, 0, 0) := by decide +kernel
theorem at_271_1905 : j_at 271 1905 = some (.aload_n 1, 0, 0, 0) := by decide +kernel
theorem at_271_1906 : j_at 271 1906 = some (.iconst 0, 0, 0, 0) := by decide +kernel
theorem at_271_1907 : j_at 271 1907 = some (.iconst 0, 0, 0, 0) := by decide +kernel
theorem at_271_1908 : j_at 271 1908 = some (.iconst (-1), 0, 0, -1) := by decide +kernel
theorem at_271_1909 : j_at 271 1909 = some (.invokevirtual 154, 131, 3, 0) := by decide +kernel
theorem at_271_1912 : j_at 271 1912 = some (.bipush (-14), 0, 0, -14) := by decide +kernel
theorem at_271_1914 : j_at 271 1914 = some (.if_icmp .ne 52, 1966, 0, 0) := by decide +kernel
theorem at_271_1917 : j_at 271 1917 = some (.aload_n 1, 0, 0, 0) := by decide +kernel
theorem at_271_1918 : j_at 271 1918 = some (.iconst 0, 0, 0, 0) := by decide +kernel
theorem at_271_1919 : j_at 271 1919 = some (.iconst 0, 0, 0, 0) := by decide +kernel
theorem at_271_1920 : j_at 271 1920 = some (.lconst 1, 0, 0, 1) := by decide +kernel
theorem at_271_1921 : j_at 271 1921 = some (.invokevirtual 157, 132, 3, 0) := by decide +kernel
theorem at_271_1924 : j_at 271 1924 = some (.bipush (-11), 0, 0, -11) := by decide +kernel
theorem at_271_1926 : j_at 271 1926 = some (.if_icmp .ne 40, 1966, 0, 0) := by decide +kernel
theorem at_271_1929 : j_at 271 1929 = some (.aload_n 1, 0, 0, 0) := by decide +kernel
theorem at_271_1930 : j_at 271 1930 = some (.bipush 10, 0, 0, 10) := by decide +kernel
theorem at_271_1932 : j_at 271 1932 = some (.invokevirtual 86, 130, 1, 0) := by decide +kernel
theorem at_271_1935 : j_at 271 1935 = some (.bipush (-2), 0, 0, -2) := by decide +kernel
theorem at_271_1937 : j_at 271 1937 = some (.if_icmp .ne 29, 1966, 0, 0) := by decide +kernel
theorem at_271_1940 : j_at 271 1940 = some (.aload_n 1, 0, 0, 0) := by decide +kernel
theorem at_271_1941 : j_at 271 1941 = some (.bipush 6, 0, 0, 6) := by decide +kernel
theorem at_271_1943 : j_at 271 1943 = some (.invokevirtual 44, 88, 1, 0) := by decide +kernel
theorem at_271_1946 : j_at 271 1946 = some (.bipush (-2), 0, 0, -2) := by decide +kernel
theorem at_271_1948 : j_at 271 1948 = some (.if_icmp .ne 18, 1966, 0, 0) := by decide +kernel
theorem at_271_1951 : j_at 271 1951 = some (.aload_n 1, 0, 0, 0) := by decide +kernel
theorem at_271_1952 : j_at 271 1952 = some (.iconst 0, 0, 0, 0) := by decide +kernel
theorem at_271_1953 : j_at 271 1953 = some (.iconst 5, 0, 0, 5) := by decide +kernel
theorem at_271_1954 : j_at 271 1954 = some (.invokevirtual 134, 120, 2, 0) := by decide +kernel
theorem at_271_1957 : j_at 271 1957 = some (.bipush (-2), 0, 0, -2) := by decide +kernel
theorem at_271_1959 : j_at 271 1959 = some (.if_icmp .ne 7, 1966, 0, 0) := by decide +kernel
theorem at_271_1962 : j_at 271 1962 = some (.iconst 1, 0, 0, 1) := by decide +kernel
theorem at_271_1963 : j_at 271 1963 = some (.goto 4, 1967, 0, 0) := by decide +kernel
theorem at_271_1966 : j_at 271 1966 = some (.iconst 0, 0, 0, 0) := by decide +kernel
theorem at_271_1967 : j_at 271 1967 = some (.ireturn, 0, 0, 0) := by decide +kernel
theorem at_272_0 : j_at 272 0 = some (.aload_n 0, 0, 0, 0) := by decide +kernel
theorem at_272_1 : j_at 272 1 = some (.invokevirtual 492, 278, 0, 0) := by decide +kernel
theorem at_272_4 : j_at 272 4 = some (.ifCond .eq 12, 16, 0, 0) := by decide +kernel
theorem at_272_7 : j_at 272 7 = some (.aload_n 0, 0, 0, 0) := by decide +kernel
theorem at_272_8 : j_at 272 8 = some (.getfield 9, 0, 0, 0) := by decide +kernel
theorem at_272_11 : j_at 272 11 = some (.iload_n 1, 0, 0, 0) := by decide +kernel
theorem at_272_12 : j_at 272 12 = some (.invokestatic 495, 281, 2, 0) := by decide +kernel
theorem at_272_15 : j_at 272 15 = some (.ireturn, 0, 0, 0) := by decide +kernel
theorem at_272_16 : j_at 272 16 = some (.aload_n 0, 0, 0, 0) := by decide +kernel
theorem at_272_17 : j_at 272 17 = some (.getfield 9, 0, 0, 0) := by decide +kernel
theorem at_272_20 : j_at 272 20 = some (.iload_n 1, 0, 0, 0) := by decide +kernel
theorem at_272_21 : j_at 272 21 = some (.invokestatic 498, 9997, 0, 0) := by decide +kernel
theorem at_272_24 : j_at 272 24 = some (.ireturn, 0, 0, 0) := by decide +kernel
theorem at_273_0 : j_at 273 0 = some (.iload_n 0, 0, 0, 0) := by decide +kernel
theorem at_273_1 : j_at 273 1 = some (.iload_n 1, 0, 0, 0) := by decide +kernel
theorem at_273_2 : j_at 273 2 = some (.goto 3, 5, 0, 0) := by decide +kernel
theorem at_273_5 : j_at 273 5 = some (.invokestatic 1059, 282, 2, 0) := by decide +kernel
theorem at_273_8 : j_at 273 8 = some (.pop, 0, 0, 0) := by decide +kernel
theorem at_273_9 : j_at 273 9 = some (.return_, 0, 0, 0) := by decide +kernel
theorem at_274_0 : j_at 274 0 = some (.getstatic 38, 98, 0, 0) := by decide +kernel
theorem at_274_3 : j_at 274 3 = some (.ifCond .eq 10, 13, 0, 0) := by decide +kernel
theorem at_274_6 : j_at 274 6 = some (.aload_n 0, 0, 0, 0) := by decide +kernel
theorem at_274_7 : j_at 274 7 = some (.getfield 15, 0, 1, 0) := by decide +kernel
theorem at_274_10 : j_at 274 10 = some (.goto 4, 14, 0, 0) := by decide +kernel
theorem at_274_13 : j_at 274 13 = some (.iconst 1, 0, 0, 1) := by decide +kernel
theorem at_274_14 : j_at 274 14 = some (.ireturn, 0, 0, 0) := by decide +kernel
theorem at_275_0 : j_at 275 0 = some (.aload_n 0, 0, 0, 0) := by decide +kernel
theorem at_275_1 : j_at 275 1 = some (.invokevirtual 335, 274, 0, 0) := by decide +kernel
theorem at_275_4 : j_at 275 4 = some (.iload_n 3, 0, 0, 0) := by decide +kernel
theorem at_275_5 : j_at 275 5 = some (.if_icmp .ne 23, 28, 0, 0) := by decide +kernel
theorem at_275_8 : j_at 275 8 = some (.aload_n 0, 0, 0, 0) := by decide +kernel
theorem at_275_9 : j_at 275 9 = some (.getfield 9, 0, 0, 0) := by decide +kernel
theorem at_275_12 : j_at 275 12 = some (.iconst 0, 0, 0, 0) := by decide +kernel
theorem at_275_13 : j_at 275 13 = some (.aload_n 1, 0, 0, 0) := by decide +kernel
theorem at_275_14 : j_at 275 14 = some (.iload_n 2, 0, 0, 0) := by decide +kernel
theorem at_275_15 : j_at 275 15 = some (.iload_n 3, 0, 0, 0) := by decide +kernel
theorem at_275_16 : j_at 275 16 = some (.ishl, 0, 0, 0) := by decide +kernel
theorem at_275_17 : j_at 275 17 = some (.aload_n 0, 0, 0, 0) := by decide +kernel
theorem at_275_18 : j_at 275 18 = some (.getfield 9, 0, 0, 0) := by decide +kernel
theorem at_275_21 : j_at 275 21 = some (.arraylength, 0, 0, 0) := by decide +kernel
theorem at_275_22 : j_at 275 22 = some (.invokestatic 212, 9999, 5, 0) := by decide +kernel
theorem at_275_25 : j_at 275 25 = some (.goto 18, 43, 0, 0) := by decide +kernel
theorem at_275_28 : j_at 275 28 = some (.aload_n 0, 0, 0, 0) := by decide +kernel
theorem at_275_29 : j_at 275 29 = some (.getfield 9, 0, 0, 0) := by decide +kernel
theorem at_275_32 : j_at 275 32 = some (.iconst 0, 0, 0, 0) := by decide +kernel
theorem at_275_33 : j_at 275 33 = some (.aload_n 1, 0, 0, 0) := by decide +kernel
theorem at_275_34 : j_at 275 34 = some (.iload_n 2, 0, 0, 0) := by decide +kernel
theorem at_275_35 : j_at 275 35 = some (.aload_n 0, 0, 0, 0) := by decide +kernel
theorem at_275_36 : j_at 275 36 = some (.getfield 9, 0, 0, 0) := by decide +kernel
theorem at_275_39 : j_at 275 39 = some (.arraylength, 0, 0, 0) := by decide +kernel
theorem at_275_40 : j_at 275 40 = some (.invokestatic 106, 9997, 0, 0) := by decide +kernel
theorem at_275_43 : j_at 275 43 = some (.return_, 0, 0, 0) := by decide +kernel
theorem at_276_0 : j_at 276 0 = some (.aload_n 0, 0, 0, 0) := by decide +kernel
theorem at_276_1 : j_at 276 1 = some (.aload_n 1, 0, 0, 0) := by decide +kernel
theorem at_276_2 : j_at 276 2 = some (.goto 1, 3, 0, 0) := by decide +kernel
theorem at_276_3 : j_at 276 3 = some (.invokespecial 489, 277, 1, 0) := by decide +kernel
theorem at_276_6 : j_at 276 6 = some (.return_, 0, 0, 0) := by decide +kernel
theorem at_277_0 : j_at 277 0 = some (.aload_n 0, 0, 0, 0) := by decide +kernel
theorem at_277_1 : j_at 277 1 = some (.invokespecial 1, 9998, 0, 0) := by decide +kernel
theorem at_277_4 : j_at 277 4 = some (.aload_n 1, 0, 0, 0) := by decide +kernel
theorem at_277_5 : j_at 277 5 = some (.invokevirtual 552, 293, 0, 0) := by decide +kernel
theorem at_277_8 : j_at 277 8 = some (.astore_n 3, 0, 0, 0) := by decide +kernel
theorem at_277_9 : j_at 277 9 = some (.aload_n 1, 0, 0, 0) := by decide +kernel
theorem at_277_10 : j_at 277 10 = some (.invokevirtual 549, 287, 0, 0) := by decide +kernel
theorem at_277_13 : j_at 277 13 = some (.istore 4, 0, 0, 0) := by decide +kernel
theorem at_277_15 : j_at 277 15 = some (.aload_n 1, 0, 0, 0) := by decide +kernel
theorem at_277_16 : j_at 277 16 = some (.invokevirtual 1047, 296, 0, 0) := by decide +kernel
theorem at_277_19 : j_at 277 19 = some (.ifCond .eq 22, 41, 0, 0) := by decide +kernel
theorem at_277_22 : j_at 277 22 = some (.aload_n 0, 0, 0, 0) := by decide +kernel
theorem at_277_23 : j_at 277 23 = some (.iconst 0, 0, 0, 0) := by decide +kernel
theorem at_277_24 : j_at 277 24 = some (.putfield 15, 0, 1, 0) := by decide +kernel
theorem at_277_27 : j_at 277 27 = some (.aload_n 0, 0, 0, 0) := by decide +kernel
theorem at_277_28 : j_at 277 28 = some (.aload_n 3, 0, 0, 0) := by decide +kernel
theorem at_277_29 : j_at 277 29 = some (.iconst 0, 0, 0, 0) := by decide +kernel
theorem at_277_30 : j_at 277 30 = some (.iload 4, 0, 0, 0) := by decide +kernel
theorem at_277_32 : j_at 277 32 = some (.invokestatic 54, 304, 3, 0) := by decide +kernel
theorem at_277_35 : j_at 277 35 = some (.putfield 9, 0, 0, 0) := by decide +kernel
theorem at_277_38 : j_at 277 38 = some (.goto 59, 97, 0, 0) := by decide +kernel
theorem at_277_41 : j_at 277 41 = some (.getstatic 38, 98, 0, 0) := by decide +kernel
theorem at_277_44 : j_at 277 44 = some (.ifCond .eq 35, 79, 0, 0) := by decide +kernel
theorem at_277_47 : j_at 277 47 = some (.aload_n 1, 0, 0, 0) := by decide +kernel
theorem at_277_48 : j_at 277 48 = some (.getfield 1048, 1, 2, 0) := by decide +kernel
theorem at_277_51 : j_at 277 51 = some (.ifCond .eq 28, 79, 0, 0) := by decide +kernel
theorem at_277_54 : j_at 277 54 = some (.aload_n 0, 0, 0, 0) := by decide +kernel
theorem at_277_55 : j_at 277 55 = some (.aload_n 3, 0, 0, 0) := by decide +kernel
theorem at_277_56 : j_at 277 56 = some (.iconst 0, 0, 0, 0) := by decide +kernel
theorem at_277_57 : j_at 277 57 = some (.iload 4, 0, 0, 0) := by decide +kernel
theorem at_277_59 : j_at 277 59 = some (.invokestatic 1051, 9997, 0, 0) := by decide +kernel
theorem at_277_62 : j_at 277 62 = some (.putfield 9, 0, 0, 0) := by decide +kernel
theorem at_277_65 : j_at 277 65 = some (.aload_n 0, 0, 0, 0) := by decide +kernel
theorem at_277_66 : j_at 277 66 = some (.aload_n 0, 0, 0, 0) := by decide +kernel
theorem at_277_67 : j_at 277 67 = some (.getfield 9, 0, 0, 0) := by decide +kernel
theorem at_277_70 : j_at 277 70 = some (.iload 4, 0, 0, 0) := by decide +kernel
theorem at_277_72 : j_at 277 72 = some (.invokestatic 47, 9997, 0, 0) := by decide +kernel
theorem at_277_75 : j_at 277 75 = some (.putfield 15, 0, 1, 0) := by decide +kernel
theorem at_277_78 : j_at 277 78 = some (.return_, 0, 0, 0) := by decide +kernel
theorem at_277_79 : j_at 277 79 = some (.aload_n 0, 0, 0, 0) := by decide +kernel
theorem at_277_80 : j_at 277 80 = some (.iconst 1, 0, 0, 1) := by decide +kernel
theorem at_277_81 : j_at 277 81 = some (.putfield 15, 0, 1, 0) := by decide +kernel
theorem at_277_84 : j_at 277 84 = some (.aload_n 0, 0, 0, 0) := by decide +kernel
theorem at_277_85 : j_at 277 85 = some (.aload_n 3, 0, 0, 0) := by decide +kernel
theorem at_277_86 : j_at 277 86 = some (.iconst 0, 0, 0, 0) := by decide +kernel
theorem at_277_87 : j_at 277 87 = some (.iload 4, 0, 0, 0) := by decide +kernel
theorem at_277_89 : j_at 277 89 = some (.iconst 1, 0, 0, 1) := by decide +kernel
theorem at_277_90 : j_at 277 90 = some (.ishl, 0, 0, 0) := by decide +kernel
theorem at_277_91 : j_at 277 91 = some (.invokestatic 54, 304, 3, 0) := by decide +kernel
theorem at_277_94 : j_at 277 94 = some (.putfield 9, 0, 0, 0) := by decide +kernel
theorem at_277_97 : j_at 277 97 = some (.return_, 0, 0, 0) := by decide +kernel
theorem at_278_0 : j_at 278 0 = some (.getstatic 38, 98, 0, 0) := by decide +kernel
theorem at_278_3 : j_at 278 3 = some (.ifCond .eq 14, 17, 0, 0) := by decide +kernel
theorem at_278_6 : j_at 278 6 = some (.aload_n 0, 0, 0, 0) := by decide +kernel
theorem at_278_7 : j_at 278 7 = some (.getfield 15, 0, 1, 0) := by decide +kernel
theorem at_278_10 : j_at 278 10 = some (.ifCond .ne 7, 17, 0, 0) := by decide +kernel
theorem at_278_13 : j_at 278 13 = some (.iconst 1, 0, 0, 1) := by decide +kernel
theorem at_278_14 : j_at 278 14 = some (.goto 4, 18, 0, 0) := by decide +kernel
theorem at_278_17 : j_at 278 17 = some (.iconst 0, 0, 0, 0) := by decide +kernel
theorem at_278_18 : j_at 278 18 = some (.ireturn, 0, 0, 0) := by decide +kernel
theorem at_279_0 : j_at 279 0 = some (.aload_n 0, 0, 0, 0) := by decide +kernel
theorem at_279_1 : j_at 279 1 = some (.getfield 9, 0, 0, 0) := by decide +kernel
theorem at_279_4 : j_at 279 4 = some (.arraylength, 0, 0, 0) := by decide +kernel
theorem at_279_5 : j_at 279 5 = some (.aload_n 0, 0, 0, 0) := by decide +kernel
theorem at_279_6 : j_at 279 6 = some (.invokevirtual 335, 274, 0, 0) := by decide +kernel
theorem at_279_9 : j_at 279 9 = some (.ishr, 0, 0, 0) := by decide +kernel
theorem at_279_10 : j_at 279 10 = some (.ireturn, 0, 0, 0) := by decide +kernel
theorem at_280_0 : j_at 280 0 = some (.iload_n 0, 0, 0, 0) := by decide +kernel
theorem at_280_1 : j_at 280 1 = some (.sipush 255, 0, 0, 255) := by decide +kernel
theorem at_280_4 : j_at 280 4 = some (.if_icmp .gt 7, 11, 0, 0) := by decide +kernel
theorem at_280_7 : j_at 280 7 = some (.iconst 1, 0, 0, 1) := by decide +kernel
theorem at_280_8 : j_at 280 8 = some (.goto 4, 12, 0, 0) := by decide +kernel
theorem at_280_11 : j_at 280 11 = some (.iconst 0, 0, 0, 0) := by decide +kernel
theorem at_280_12 : j_at 280 12 = some (.ireturn, 0, 0, 0) := by decide +kernel
theorem at_281_0 : j_at 281 0 = some (.iload_n 1, 0, 0, 0) := by decide +kernel
theorem at_281_1 : j_at 281 1 = some (.aload_n 0, 0, 0, 0) := by decide +kernel
theorem at_281_2 : j_at 281 2 = some (.arraylength, 0, 0, 0) := by decide +kernel
theorem at_281_3 : j_at 281 3 = some (.invokestatic 9, 273, 2, 0) := by decide +kernel
theorem at_281_6 : j_at 281 6 = some (.aload_n 0, 0, 0, 0) := by decide +kernel
theorem at_281_7 : j_at 281 7 = some (.iload_n 1, 0, 0, 0) := by decide +kernel
theorem at_281_8 : j_at 281 8 = some (.baload, 0, 0, 0) := by decide +kernel
theorem at_281_9 : j_at 281 9 = some (.sipush 255, 0, 0, 255) := by decide +kernel
theorem at_281_12 : j_at 281 12 = some (.iand, 0, 0, 0) := by decide +kernel
theorem at_281_13 : j_at 281 13 = some (.i2c, 0, 0, 0) := by decide +kernel
theorem at_281_14 : j_at 281 14 = some (.ireturn, 0, 0, 0) := by decide +kernel
theorem at_282_0 : j_at 282 0 = some (.iload_n 0, 0, 0, 0) := by decide +kernel
theorem at_282_1 : j_at 282 1 = some (.ifCond .lt 8, 9, 0, 0) := by decide +kernel
theorem at_282_4 : j_at 282 4 = some (.iload_n 0, 0, 0, 0) := by decide +kernel
theorem at_282_5 : j_at 282 5 = some (.iload_n 1, 0, 0, 0) := by decide +kernel
theorem at_282_6 : j_at 282 6 = some (.if_icmp .lt 10, 16, 0, 0) := by decide +kernel
theorem at_282_9 : j_at 282 9 = some (.aload_n 2, 0, 0, 0) := by decide +kernel
theorem at_282_10 : j_at 282 10 = some (.iload_n 0, 0, 0, 0) := by decide +kernel
theorem at_282_11 : j_at 282 11 = some (.iload_n 1, 0, 0, 0) := by decide +kernel
theorem at_282_12 : j_at 282 12 = some (.invokestatic 95, 9997, 0, 0) := by decide +kernel
theorem at_282_15 : j_at 282 15 = some (.athrow, 0, 0, 0) := by decide +kernel
theorem at_282_16 : j_at 282 16 = some (.iload_n 0, 0, 0, 0) := by decide +kernel
theorem at_282_17 : j_at 282 17 = some (.ireturn, 0, 0, 0) := by decide +kernel
theorem at_283_0 : j_at 283 0 = some (.aload_n 0, 0, 0, 0) := by decide +kernel
theorem at_283_1 : j_at 283 1 = some (.aload_n 1, 0, 0, 0) := by decide +kernel
theorem at_283_2 : j_at 283 2 = some (.invokespecial 29, 291, 1, 0) := by decide +kernel
theorem at_283_5 : j_at 283 5 = some (.pop, 0, 0, 0) := by decide +kernel
theorem at_283_6 : j_at 283 6 = some (.aload_n 0, 0, 0, 0) := by decide +kernel
theorem at_283_7 : j_at 283 7 = some (.areturn, 0, 0, 0) := by decide +kernel
theorem at_284_0 : j_at 284 0 = some (.aload_n 0, 0, 0, 0) := by decide +kernel
theorem at_284_1 : j_at 284 1 = some (.iload_n 1, 0, 0, 0) := by decide +kernel
theorem at_284_2 : j_at 284 2 = some (.invokespecial 53, 290, 1, 0) := by decide +kernel
theorem at_284_5 : j_at 284 5 = some (.pop, 0, 0, 0) := by decide +kernel
theorem at_284_6 : j_at 284 6 = some (.aload_n 0, 0, 0, 0) := by decide +kernel
theorem at_284_7 : j_at 284 7 = some (.areturn, 0, 0, 0) := by decide +kernel
theorem at_285_0 : j_at 285 0 = some (.aload_n 0, 0, 0, 0) := by decide +kernel
theorem at_285_1 : j_at 285 1 = some (.iload_n 1, 0, 0, 0) := by decide +kernel
theorem at_285_2 : j_at 285 2 = some (.invokespecial 50, 289, 1, 0) := by decide +kernel
theorem at_285_5 : j_at 285 5 = some (.pop, 0, 0, 0) := by decide +kernel
theorem at_285_6 : j_at 285 6 = some (.aload_n 0, 0, 0, 0) := by decide +kernel
theorem at_285_7 : j_at 285 7 = some (.areturn, 0, 0, 0) := by decide +kernel
theorem at_286_0 : j_at 286 0 = some (.aload_n 0, 0, 0, 0) := by decide +kernel
theorem at_286_1 : j_at 286 1 = some (.bipush 16, 0, 0, 16) := by decide +kernel
theorem at_286_3 : j_at 286 3 = some (.invokespecial 1, 295, 1, 0) := by decide +kernel
theorem at_286_6 : j_at 286 6 = some (.return_, 0, 0, 0) := by decide +kernel
theorem at_287_0 : j_at 287 0 = some (.aload_n 0, 0, 0, 0) := by decide +kernel
theorem at_287_1 : j_at 287 1 = some (.invokespecial 343, 297, 0, 0) := by decide +kernel
theorem at_287_4 : j_at 287 4 = some (.ireturn, 0, 0, 0) := by decide +kernel
theorem at_288_0 : j_at 288 0 = some (.new 18, 0, 0, 0) := by decide +kernel
theorem at_288_3 : j_at 288 3 = some (.dup, 0, 0, 0) := by decide +kernel
theorem at_288_4 : j_at 288 4 = some (.aload_n 0, 0, 0, 0) := by decide +kernel
theorem at_288_5 : j_at 288 5 = some (.invokespecial 137, 276, 1, 0) := by decide +kernel
theorem at_288_8 : j_at 288 8 = some (.areturn, 0, 0, 0) := by decide +kernel
theorem at_289_0 : j_at 289 0 = some (.aload_n 0, 0, 0, 0) := by decide +kernel
theorem at_289_1 : j_at 289 1 = some (.aload_n 0, 0, 0, 0) := by decide +kernel
theorem at_289_2 : j_at 289 2 = some (.getfield 79, 1, 3, 0) := by decide +kernel
theorem at_289_5 : j_at 289 5 = some (.iconst 1, 0, 0, 1) := by decide +kernel
theorem at_289_6 : j_at 289 6 = some (.iadd, 0, 0, 0) := by decide +kernel
theorem at_289_7 : j_at 289 7 = some (.invokevirtual 100, 292, 1, 0) := by decide +kernel
theorem at_289_10 : j_at 289 10 = some (.aload_n 0, 0, 0, 0) := by decide +kernel
theorem at_289_11 : j_at 289 11 = some (.invokevirtual 83, 296, 0, 0) := by decide +kernel
theorem at_289_14 : j_at 289 14 = some (.ifCond .eq 31, 45, 0, 0) := by decide +kernel
theorem at_289_17 : j_at 289 17 = some (.iload_n 1, 0, 0, 0) := by decide +kernel
theorem at_289_18 : j_at 289 18 = some (.invokestatic 191, 280, 1, 0) := by decide +kernel
theorem at_289_21 : j_at 289 21 = some (.ifCond .eq 24, 45, 0, 0) := by decide +kernel
theorem at_289_24 : j_at 289 24 = some (.aload_n 0, 0, 0, 0) := by decide +kernel
theorem at_289_25 : j_at 289 25 = some (.getfield 15, 1, 0, 0) := by decide +kernel
theorem at_289_28 : j_at 289 28 = some (.aload_n 0, 0, 0, 0) := by decide +kernel
theorem at_289_29 : j_at 289 29 = some (.dup, 0, 0, 0) := by decide +kernel
theorem at_289_30 : j_at 289 30 = some (.getfield 79, 1, 3, 0) := by decide +kernel
theorem at_289_33 : j_at 289 33 = some (.dup_x1, 0, 0, 0) := by decide +kernel
theorem at_289_34 : j_at 289 34 = some (.iconst 1, 0, 0, 1) := by decide +kernel
theorem at_289_35 : j_at 289 35 = some (.iadd, 0, 0, 0) := by decide +kernel
theorem at_289_36 : j_at 289 36 = some (.putfield 79, 1, 3, 0) := by decide +kernel
theorem at_289_39 : j_at 289 39 = some (.iload_n 1, 0, 0, 0) := by decide +kernel
theorem at_289_40 : j_at 289 40 = some (.i2b, 0, 0, 0) := by decide +kernel
theorem at_289_41 : j_at 289 41 = some (.bastore, 0, 0, 0) := by decide +kernel
theorem at_289_42 : j_at 289 42 = some (.goto 33, 75, 0, 0) := by decide +kernel
theorem at_289_45 : j_at 289 45 = some (.aload_n 0, 0, 0, 0) := by decide +kernel
theorem at_289_46 : j_at 289 46 = some (.invokevirtual 83, 296, 0, 0) := by decide +kernel
theorem at_289_49 : j_at 289 49 = some (.ifCond .eq 7, 56, 0, 0) := by decide +kernel
theorem at_289_52 : j_at 289 52 = some (.aload_n 0, 0, 0, 0) := by decide +kernel
theorem at_289_53 : j_at 289 53 = some (.invokevirtual 195, 9997, 0, 0) := by decide +kernel
theorem at_289_56 : j_at 289 56 = some (.aload_n 0, 0, 0, 0) := by decide +kernel
theorem at_289_57 : j_at 289 57 = some (.getfield 15, 1, 0, 0) := by decide +kernel
theorem at_289_60 : j_at 289 60 = some (.aload_n 0, 0, 0, 0) := by decide +kernel
theorem at_289_61 : j_at 289 61 = some (.dup, 0, 0, 0) := by decide +kernel
theorem at_289_62 : j_at 289 62 = some (.getfield 79, 1, 3, 0) := by decide +kernel
theorem at_289_65 : j_at 289 65 = some (.dup_x1, 0, 0, 0) := by decide +kernel
theorem at_289_66 : j_at 289 66 = some (.iconst 1, 0, 0, 1) := by decide +kernel
theorem at_289_67 : j_at 289 67 = some (.iadd, 0, 0, 0) := by decide +kernel
theorem at_289_68 : j_at 289 68 = some (.putfield 79, 1, 3, 0) := by decide +kernel
theorem at_289_71 : j_at 289 71 = some (.iload_n 1, 0, 0, 0) := by decide +kernel
theorem at_289_72 : j_at 289 72 = some (.invokestatic 197, 9997, 0, 0) := by decide +kernel
theorem at_289_75 : j_at 289 75 = some (.aload_n 0, 0, 0, 0) := by decide +kernel
theorem at_289_76 : j_at 289 76 = some (.areturn, 0, 0, 0) := by decide +kernel
theorem at_290_0 : j_at 290 0 = some (.aload_n 0, 0, 0, 0) := by decide +kernel
theorem at_290_1 : j_at 290 1 = some (.getfield 79, 1, 3, 0) := by decide +kernel
theorem at_290_4 : j_at 290 4 = some (.istore_n 2, 0, 0, 0) := by decide +kernel
theorem at_290_5 : j_at 290 5 = some (.iload_n 2, 0, 0, 0) := by decide +kernel
theorem at_290_6 : j_at 290 6 = some (.iload_n 1, 0, 0, 0) := by decide +kernel
theorem at_290_7 : j_at 290 7 = some (.invokestatic 245, 301, 1, 0) := by decide +kernel
theorem at_290_10 : j_at 290 10 = some (.iadd, 0, 0, 0) := by decide +kernel
theorem at_290_11 : j_at 290 11 = some (.istore_n 3, 0, 0, 0) := by decide +kernel
theorem at_290_12 : j_at 290 12 = some (.aload_n 0, 0, 0, 0) := by decide +kernel
theorem at_290_13 : j_at 290 13 = some (.iload_n 3, 0, 0, 0) := by decide +kernel
theorem at_290_14 : j_at 290 14 = some (.invokevirtual 100, 292, 1, 0) := by decide +kernel
theorem at_290_17 : j_at 290 17 = some (.aload_n 0, 0, 0, 0) := by decide +kernel
theorem at_290_18 : j_at 290 18 = some (.invokevirtual 83, 296, 0, 0) := by decide +kernel
theorem at_290_21 : j_at 290 21 = some (.ifCond .eq 16, 37, 0, 0) := by decide +kernel
theorem at_290_24 : j_at 290 24 = some (.iload_n 1, 0, 0, 0) := by decide +kernel
theorem at_290_25 : j_at 290 25 = some (.iload_n 3, 0, 0, 0) := by decide +kernel
theorem at_290_26 : j_at 290 26 = some (.aload_n 0, 0, 0, 0) := by decide +kernel
theorem at_290_27 : j_at 290 27 = some (.getfield 15, 1, 0, 0) := by decide +kernel
theorem at_290_30 : j_at 290 30 = some (.invokestatic 248, 300, 3, 0) := by decide +kernel
theorem at_290_33 : j_at 290 33 = some (.pop, 0, 0, 0) := by decide +kernel
theorem at_290_34 : j_at 290 34 = some (.goto 14, 48, 0, 0) := by decide +kernel
theorem at_290_37 : j_at 290 37 = some (.iload_n 1, 0, 0, 0) := by decide +kernel
theorem at_290_38 : j_at 290 38 = some (.iload_n 2, 0, 0, 0) := by decide +kernel
theorem at_290_39 : j_at 290 39 = some (.iload_n 3, 0, 0, 0) := by decide +kernel
theorem at_290_40 : j_at 290 40 = some (.aload_n 0, 0, 0, 0) := by decide +kernel
theorem at_290_41 : j_at 290 41 = some (.getfield 15, 1, 0, 0) := by decide +kernel
theorem at_290_44 : j_at 290 44 = some (.invokestatic 251, 9997, 0, 0) := by decide +kernel
theorem at_290_47 : j_at 290 47 = some (.pop, 0, 0, 0) := by decide +kernel
theorem at_290_48 : j_at 290 48 = some (.aload_n 0, 0, 0, 0) := by decide +kernel
theorem at_290_49 : j_at 290 49 = some (.iload_n 3, 0, 0, 0) := by decide +kernel
theorem at_290_50 : j_at 290 50 = some (.putfield 79, 1, 3, 0) := by decide +kernel
theorem at_290_53 : j_at 290 53 = some (.aload_n 0, 0, 0, 0) := by decide +kernel
theorem at_290_54 : j_at 290 54 = some (.areturn, 0, 0, 0) := by decide +kernel
theorem at_291_0 : j_at 291 0 = some (.aload_n 1, 0, 0, 0) := by decide +kernel
theorem at_291_1 : j_at 291 1 = some (.ifnonnull 8, 9, 0, 0) := by decide +kernel
theorem at_291_4 : j_at 291 4 = some (.aload_n 0, 0, 0, 0) := by decide +kernel
theorem at_291_5 : j_at 291 5 = some (.invokevirtual 204, 9997, 0, 0) := by decide +kernel
theorem at_291_8 : j_at 291 8 = some (.areturn, 0, 0, 0) := by decide +kernel
theorem at_291_9 : j_at 291 9 = some (.aload_n 1, 0, 0, 0) := by decide +kernel
theorem at_291_10 : j_at 291 10 = some (.invokevirtual 32, 279, 0, 0) := by decide +kernel
theorem at_291_13 : j_at 291 13 = some (.istore_n 2, 0, 0, 0) := by decide +kernel
theorem at_291_14 : j_at 291 14 = some (.aload_n 0, 0, 0, 0) := by decide +kernel
theorem at_291_15 : j_at 291 15 = some (.aload_n 0, 0, 0, 0) := by decide +kernel
theorem at_291_16 : j_at 291 16 = some (.getfield 79, 1, 3, 0) := by decide +kernel
theorem at_291_19 : j_at 291 19 = some (.iload_n 2, 0, 0, 0) := by decide +kernel
theorem at_291_20 : j_at 291 20 = some (.iadd, 0, 0, 0) := by decide +kernel
theorem at_291_21 : j_at 291 21 = some (.invokevirtual 100, 292, 1, 0) := by decide +kernel
theorem at_291_24 : j_at 291 24 = some (.aload_n 0, 0, 0, 0) := by decide +kernel
theorem at_291_25 : j_at 291 25 = some (.aload_n 0, 0, 0, 0) := by decide +kernel
theorem at_291_26 : j_at 291 26 = some (.getfield 79, 1, 3, 0) := by decide +kernel
theorem at_291_29 : j_at 291 29 = some (.aload_n 1, 0, 0, 0) := by decide +kernel
theorem at_291_30 : j_at 291 30 = some (.invokevirtual 208, 299, 2, 0) := by decide +kernel
theorem at_291_33 : j_at 291 33 = some (.aload_n 0, 0, 0, 0) := by decide +kernel
theorem at_291_34 : j_at 291 34 = some (.dup, 0, 0, 0) := by decide +kernel
theorem at_291_35 : j_at 291 35 = some (.getfield 79, 1, 3, 0) := by decide +kernel
theorem at_291_38 : j_at 291 38 = some (.iload_n 2, 0, 0, 0) := by decide +kernel
theorem at_291_39 : j_at 291 39 = some (.iadd, 0, 0, 0) := by decide +kernel
theorem at_291_40 : j_at 291 40 = some (.putfield 79, 1, 3, 0) := by decide +kernel
theorem at_291_43 : j_at 291 43 = some (.aload_n 0, 0, 0, 0) := by decide +kernel
theorem at_291_44 : j_at 291 44 = some (.areturn, 0, 0, 0) := by decide +kernel
theorem at_292_0 : j_at 292 0 = some (.aload_n 0, 0, 0, 0) := by decide +kernel
theorem at_292_1 : j_at 292 1 = some (.getfield 15, 1, 0, 0) := by decide +kernel
theorem at_292_4 : j_at 292 4 = some (.arraylength, 0, 0, 0) := by decide +kernel
theorem at_292_5 : j_at 292 5 = some (.aload_n 0, 0, 0, 0) := by decide +kernel
theorem at_292_6 : j_at 292 6 = some (.getfield 22, 1, 1, 0) := by decide +kernel
theorem at_292_9 : j_at 292 9 = some (.ishr, 0, 0, 0) := by decide +kernel
theorem at_292_10 : j_at 292 10 = some (.istore_n 2, 0, 0, 0) := by decide +kernel
theorem at_292_11 : j_at 292 11 = some (.iload_n 1, 0, 0, 0) := by decide +kernel
theorem at_292_12 : j_at 292 12 = some (.iload_n 2, 0, 0, 0) := by decide +kernel
theorem at_292_13 : j_at 292 13 = some (.isub, 0, 0, 0) := by decide +kernel
theorem at_292_14 : j_at 292 14 = some (.ifCond .le 24, 38, 0, 0) := by decide +kernel
theorem at_292_17 : j_at 292 17 = some (.aload_n 0, 0, 0, 0) := by decide +kernel
theorem at_292_18 : j_at 292 18 = some (.aload_n 0, 0, 0, 0) := by decide +kernel
theorem at_292_19 : j_at 292 19 = some (.getfield 15, 1, 0, 0) := by decide +kernel
theorem at_292_22 : j_at 292 22 = some (.aload_n 0, 0, 0, 0) := by decide +kernel
theorem at_292_23 : j_at 292 23 = some (.iload_n 1, 0, 0, 0) := by decide +kernel
theorem at_292_24 : j_at 292 24 = some (.invokevirtual 104, 298, 1, 0) := by decide +kernel
theorem at_292_27 : j_at 292 27 = some (.aload_n 0, 0, 0, 0) := by decide +kernel
theorem at_292_28 : j_at 292 28 = some (.getfield 22, 1, 1, 0) := by decide +kernel
theorem at_292_31 : j_at 292 31 = some (.ishl, 0, 0, 0) := by decide +kernel
theorem at_292_32 : j_at 292 32 = some (.invokestatic 108, 305, 2, 0) := by decide +kernel
theorem at_292_35 : j_at 292 35 = some (.putfield 15, 1, 0, 0) := by decide +kernel
theorem at_292_38 : j_at 292 38 = some (.return_, 0, 0, 0) := by decide +kernel
theorem at_293_0 : j_at 293 0 = some (.aload_n 0, 0, 0, 0) := by decide +kernel
theorem at_293_1 : j_at 293 1 = some (.getfield 15, 1, 0, 0) := by decide +kernel
theorem at_293_4 : j_at 293 4 = some (.areturn, 0, 0, 0) := by decide +kernel
theorem at_294_0 : j_at 294 0 = some (.getstatic 18, 98, 0, 0) := by decide +kernel
theorem at_294_3 : j_at 294 3 = some (.ifCond .eq 18, 21, 0, 0) := by decide +kernel
theorem at_294_6 : j_at 294 6 = some (.aload_n 0, 0, 0, 0) := by decide +kernel
theorem at_294_7 : j_at 294 7 = some (.getfield 22, 1, 1, 0) := by decide +kernel
theorem at_294_10 : j_at 294 10 = some (.aload_n 1, 0, 0, 0) := by decide +kernel
theorem at_294_11 : j_at 294 11 = some (.invokevirtual 40, 274, 0, 0) := by decide +kernel
theorem at_294_14 : j_at 294 14 = some (.if_icmp .eq 7, 21, 0, 0) := by decide +kernel
theorem at_294_17 : j_at 294 17 = some (.aload_n 0, 0, 0, 0) := by decide +kernel
theorem at_294_18 : j_at 294 18 = some (.invokevirtual 195, 9997, 0, 0) := by decide +kernel
theorem at_294_21 : j_at 294 21 = some (.return_, 0, 0, 0) := by decide +kernel
theorem at_295_0 : j_at 295 0 = some (.aload_n 0, 0, 0, 0) := by decide +kernel
theorem at_295_1 : j_at 295 1 = some (.invokespecial 3, 9998, 0, 0) := by decide +kernel
theorem at_295_4 : j_at 295 4 = some (.getstatic 18, 98, 0, 0) := by decide +kernel
theorem at_295_7 : j_at 295 7 = some (.ifCond .eq 18, 25, 0, 0) := by decide +kernel
theorem at_295_10 : j_at 295 10 = some (.aload_n 0, 0, 0, 0) := by decide +kernel
theorem at_295_11 : j_at 295 11 = some (.iload_n 1, 0, 0, 0) := by decide +kernel
theorem at_295_12 : j_at 295 12 = some (.newarray .byte, 0, 0, 0) := by decide +kernel
theorem at_295_14 : j_at 295 14 = some (.putfield 15, 1, 0, 0) := by decide +kernel
theorem at_295_17 : j_at 295 17 = some (.aload_n 0, 0, 0, 0) := by decide +kernel
theorem at_295_18 : j_at 295 18 = some (.iconst 0, 0, 0, 0) := by decide +kernel
theorem at_295_19 : j_at 295 19 = some (.putfield 22, 1, 1, 0) := by decide +kernel
theorem at_295_22 : j_at 295 22 = some (.goto 16, 38, 0, 0) := by decide +kernel
theorem at_295_25 : j_at 295 25 = some (.aload_n 0, 0, 0, 0) := by decide +kernel
theorem at_295_26 : j_at 295 26 = some (.iload_n 1, 0, 0, 0) := by decide +kernel
theorem at_295_27 : j_at 295 27 = some (.invokestatic 26, 9997, 0, 0) := by decide +kernel
theorem at_295_30 : j_at 295 30 = some (.putfield 15, 1, 0, 0) := by decide +kernel
theorem at_295_33 : j_at 295 33 = some (.aload_n 0, 0, 0, 0) := by decide +kernel
theorem at_295_34 : j_at 295 34 = some (.iconst 1, 0, 0, 1) := by decide +kernel
theorem at_295_35 : j_at 295 35 = some (.putfield 22, 1, 1, 0) := by decide +kernel
theorem at_295_38 : j_at 295 38 = some (.return_, 0, 0, 0) := by decide +kernel
theorem at_296_0 : j_at 296 0 = some (.getstatic 18, 98, 0, 0) := by decide +kernel
theorem at_296_3 : j_at 296 3 = some (.ifCond .eq 14, 17, 0, 0) := by decide +kernel
theorem at_296_6 : j_at 296 6 = some (.aload_n 0, 0, 0, 0) := by decide +kernel
theorem at_296_7 : j_at 296 7 = some (.getfield 22, 1, 1, 0) := by decide +kernel
theorem at_296_10 : j_at 296 10 = some (.ifCond .ne 7, 17, 0, 0) := by decide +kernel
theorem at_296_13 : j_at 296 13 = some (.iconst 1, 0, 0, 1) := by decide +kernel
theorem at_296_14 : j_at 296 14 = some (.goto 4, 18, 0, 0) := by decide +kernel
theorem at_296_17 : j_at 296 17 = some (.iconst 0, 0, 0, 0) := by decide +kernel
theorem at_296_18 : j_at 296 18 = some (.ireturn, 0, 0, 0) := by decide +kernel
theorem at_297_0 : j_at 297 0 = some (.aload_n 0, 0, 0, 0) := by decide +kernel
theorem at_297_1 : j_at 297 1 = some (.getfield 79, 1, 3, 0) := by decide +kernel
theorem at_297_4 : j_at 297 4 = some (.ireturn, 0, 0, 0) := by decide +kernel
theorem at_298_0 : j_at 298 0 = some (.aload_n 0, 0, 0, 0) := by decide +kernel
theorem at_298_1 : j_at 298 1 = some (.getfield 15, 1, 0, 0) := by decide +kernel
theorem at_298_4 : j_at 298 4 = some (.arraylength, 0, 0, 0) := by decide +kernel
theorem at_298_5 : j_at 298 5 = some (.istore_n 2, 0, 0, 0) := by decide +kernel
theorem at_298_6 : j_at 298 6 = some (.iload_n 1, 0, 0, 0) := by decide +kernel
theorem at_298_7 : j_at 298 7 = some (.aload_n 0, 0, 0, 0) := by decide +kernel
theorem at_298_8 : j_at 298 8 = some (.getfield 22, 1, 1, 0) := by decide +kernel
theorem at_298_11 : j_at 298 11 = some (.ishl, 0, 0, 0) := by decide +kernel
theorem at_298_12 : j_at 298 12 = some (.istore_n 3, 0, 0, 0) := by decide +kernel
theorem at_298_13 : j_at 298 13 = some (.iload_n 3, 0, 0, 0) := by decide +kernel
theorem at_298_14 : j_at 298 14 = some (.iload_n 2, 0, 0, 0) := by decide +kernel
theorem at_298_15 : j_at 298 15 = some (.isub, 0, 0, 0) := by decide +kernel
theorem at_298_16 : j_at 298 16 = some (.istore 4, 0, 0, 0) := by decide +kernel
theorem at_298_18 : j_at 298 18 = some (.iload_n 2, 0, 0, 0) := by decide +kernel
theorem at_298_19 : j_at 298 19 = some (.iload 4, 0, 0, 0) := by decide +kernel
theorem at_298_21 : j_at 298 21 = some (.iload_n 2, 0, 0, 0) := by decide +kernel
theorem at_298_22 : j_at 298 22 = some (.iconst 2, 0, 0, 2) := by decide +kernel
theorem at_298_23 : j_at 298 23 = some (.aload_n 0, 0, 0, 0) := by decide +kernel
theorem at_298_24 : j_at 298 24 = some (.getfield 22, 1, 1, 0) := by decide +kernel
theorem at_298_27 : j_at 298 27 = some (.ishl, 0, 0, 0) := by decide +kernel
theorem at_298_28 : j_at 298 28 = some (.iadd, 0, 0, 0) := by decide +kernel
theorem at_298_29 : j_at 298 29 = some (.invokestatic 114, 306, 3, 0) := by decide +kernel
theorem at_298_32 : j_at 298 32 = some (.istore 5, 0, 0, 0) := by decide +kernel
theorem at_298_34 : j_at 298 34 = some (.iload 5, 0, 0, 0) := by decide +kernel
theorem at_298_36 : j_at 298 36 = some (.ldc 39, 0, 0, 2147483647) := by decide +kernel
theorem at_298_38 : j_at 298 38 = some (.if_icmp .ne 13, 51, 0, 0) := by decide +kernel
theorem at_298_41 : j_at 298 41 = some (.new 120, 9997, 0, 0) := by decide +kernel
theorem at_298_44 : j_at 298 44 = some (.dup, 0, 0, 0) := by decide +kernel
theorem at_298_45 : j_at 298 45 = some (.ldc 122, 9997, 0, 0) := by decide +kernel
theorem at_298_47 : j_at 298 47 = some (.invokespecial 124, 9997, 0, 0) := by decide +kernel
theorem at_298_50 : j_at 298 50 = some (.athrow, 0, 0, 0) := by decide +kernel
theorem at_298_51 : j_at 298 51 = some (.iload 5, 0, 0, 0) := by decide +kernel
theorem at_298_53 : j_at 298 53 = some (.aload_n 0, 0, 0, 0) := by decide +kernel
theorem at_298_54 : j_at 298 54 = some (.getfield 22, 1, 1, 0) := by decide +kernel
theorem at_298_57 : j_at 298 57 = some (.ishr, 0, 0, 0) := by decide +kernel
theorem at_298_58 : j_at 298 58 = some (.ireturn, 0, 0, 0) := by decide +kernel
theorem at_299_0 : j_at 299 0 = some (.aload_n 0, 0, 0, 0) := by decide +kernel
theorem at_299_1 : j_at 299 1 = some (.aload_n 2, 0, 0, 0) := by decide +kernel
theorem at_299_2 : j_at 299 2 = some (.invokevirtual 397, 294, 1, 0) := by decide +kernel
theorem at_299_5 : j_at 299 5 = some (.aload_n 2, 0, 0, 0) := by decide +kernel
theorem at_299_6 : j_at 299 6 = some (.aload_n 0, 0, 0, 0) := by decide +kernel
theorem at_299_7 : j_at 299 7 = some (.getfield 15, 1, 0, 0) := by decide +kernel
theorem at_299_10 : j_at 299 10 = some (.iload_n 1, 0, 0, 0) := by decide +kernel
theorem at_299_11 : j_at 299 11 = some (.aload_n 0, 0, 0, 0) := by decide +kernel
theorem at_299_12 : j_at 299 12 = some (.getfield 22, 1, 1, 0) := by decide +kernel
theorem at_299_15 : j_at 299 15 = some (.invokevirtual 399, 275, 3, 0) := by decide +kernel
theorem at_299_18 : j_at 299 18 = some (.return_, 0, 0, 0) := by decide +kernel
theorem at_300_0 : j_at 300 0 = some (.iload_n 1, 0, 0, 0) := by decide +kernel
theorem at_300_1 : j_at 300 1 = some (.istore 5, 0, 0, 0) := by decide +kernel
theorem at_300_3 : j_at 300 3 = some (.iload_n 0, 0, 0, 0) := by decide +kernel
theorem at_300_4 : j_at 300 4 = some (.ifCond .ge 7, 11, 0, 0) := by decide +kernel
theorem at_300_7 : j_at 300 7 = some (.iconst 1, 0, 0, 1) := by decide +kernel
theorem at_300_8 : j_at 300 8 = some (.goto 4, 12, 0, 0) := by decide +kernel
theorem at_300_11 : j_at 300 11 = some (.iconst 0, 0, 0, 0) := by decide +kernel
theorem at_300_12 : j_at 300 12 = some (.istore 6, 0, 0, 0) := by decide +kernel
theorem at_300_14 : j_at 300 14 = some (.iload 6, 0, 0, 0) := by decide +kernel
theorem at_300_16 : j_at 300 16 = some (.ifCond .ne 6, 22, 0, 0) := by decide +kernel
theorem at_300_19 : j_at 300 19 = some (.iload_n 0, 0, 0, 0) := by decide +kernel
theorem at_300_20 : j_at 300 20 = some (.ineg, 0, 0, 0) := by decide +kernel
theorem at_300_21 : j_at 300 21 = some (.istore_n 0, 0, 0, 0) := by decide +kernel
theorem at_300_22 : j_at 300 22 = some (.iload_n 0, 0, 0, 0) := by decide +kernel
theorem at_300_23 : j_at 300 23 = some (.bipush (-100), 0, 0, -100) := by decide +kernel
theorem at_300_25 : j_at 300 25 = some (.if_icmp .gt 47, 72, 0, 0) := by decide +kernel
theorem at_300_28 : j_at 300 28 = some (.iload_n 0, 0, 0, 0) := by decide +kernel
theorem at_300_29 : j_at 300 29 = some (.bipush 100, 0, 0, 100) := by decide +kernel
theorem at_300_31 : j_at 300 31 = some (.idiv, 0, 0, 0) := by decide +kernel
theorem at_300_32 : j_at 300 32 = some (.istore_n 3, 0, 0, 0) := by decide +kernel
theorem at_300_33 : j_at 300 33 = some (.iload_n 3, 0, 0, 0) := by decide +kernel
theorem at_300_34 : j_at 300 34 = some (.bipush 100, 0, 0, 100) := by decide +kernel
theorem at_300_36 : j_at 300 36 = some (.imul, 0, 0, 0) := by decide +kernel
theorem at_300_37 : j_at 300 37 = some (.iload_n 0, 0, 0, 0) := by decide +kernel
theorem at_300_38 : j_at 300 38 = some (.isub, 0, 0, 0) := by decide +kernel
theorem at_300_39 : j_at 300 39 = some (.istore 4, 0, 0, 0) := by decide +kernel
theorem at_300_41 : j_at 300 41 = some (.iload_n 3, 0, 0, 0) := by decide +kernel
theorem at_300_42 : j_at 300 42 = some (.istore_n 0, 0, 0, 0) := by decide +kernel
theorem at_300_43 : j_at 300 43 = some (.aload_n 2, 0, 0, 0) := by decide +kernel
theorem at_300_44 : j_at 300 44 = some (.iinc 5 (-1), 0, 0, 0) := by decide +kernel
theorem at_300_47 : j_at 300 47 = some (.iload 5, 0, 0, 0) := by decide +kernel
theorem at_300_49 : j_at 300 49 = some (.getstatic 83, 96, 0, 0) := by decide +kernel
theorem at_300_52 : j_at 300 52 = some (.iload 4, 0, 0, 0) := by decide +kernel
theorem at_300_54 : j_at 300 54 = some (.baload, 0, 0, 0) := by decide +kernel
theorem at_300_55 : j_at 300 55 = some (.bastore, 0, 0, 0) := by decide +kernel
theorem at_300_56 : j_at 300 56 = some (.aload_n 2, 0, 0, 0) := by decide +kernel
theorem at_300_57 : j_at 300 57 = some (.iinc 5 (-1), 0, 0, 0) := by decide +kernel
theorem at_300_60 : j_at 300 60 = some (.iload 5, 0, 0, 0) := by decide +kernel
theorem at_300_62 : j_at 300 62 = some (.getstatic 87, 97, 0, 0) := by decide +kernel
theorem at_300_65 : j_at 300 65 = some (.iload 4, 0, 0, 0) := by decide +kernel
theorem at_300_67 : j_at 300 67 = some (.baload, 0, 0, 0) := by decide +kernel
theorem at_300_68 : j_at 300 68 = some (.bastore, 0, 0, 0) := by decide +kernel
theorem at_300_69 : j_at 300 69 = some (.goto (-47), 22, 0, 0) := by decide +kernel
theorem at_300_72 : j_at 300 72 = some (.aload_n 2, 0, 0, 0) := by decide +kernel
theorem at_300_73 : j_at 300 73 = some (.iinc 5 (-1), 0, 0, 0) := by decide +kernel
theorem at_300_76 : j_at 300 76 = some (.iload 5, 0, 0, 0) := by decide +kernel
theorem at_300_78 : j_at 300 78 = some (.getstatic 83, 96, 0, 0) := by decide +kernel
theorem at_300_81 : j_at 300 81 = some (.iload_n 0, 0, 0, 0) := by decide +kernel
theorem at_300_82 : j_at 300 82 = some (.ineg, 0, 0, 0) := by decide +kernel
theorem at_300_83 : j_at 300 83 = some (.baload, 0, 0, 0) := by decide +kernel
theorem at_300_84 : j_at 300 84 = some (.bastore, 0, 0, 0) := by decide +kernel
theorem at_300_85 : j_at 300 85 = some (.iload_n 0, 0, 0, 0) := by decide +kernel
theorem at_300_86 : j_at 300 86 = some (.bipush (-9), 0, 0, -9) := by decide +kernel
theorem at_300_88 : j_at 300 88 = some (.if_icmp .ge 16, 104, 0, 0) := by decide +kernel
theorem at_300_91 : j_at 300 91 = some (.aload_n 2, 0, 0, 0) := by decide +kernel
theorem at_300_92 : j_at 300 92 = some (.iinc 5 (-1), 0, 0, 0) := by decide +kernel
theorem at_300_95 : j_at 300 95 = some (.iload 5, 0, 0, 0) := by decide +kernel
theorem at_300_97 : j_at 300 97 = some (.getstatic 87, 97, 0, 0) := by decide +kernel
theorem at_300_100 : j_at 300 100 = some (.iload_n 0, 0, 0, 0) := by decide +kernel
theorem at_300_101 : j_at 300 101 = some (.ineg, 0, 0, 0) := by decide +kernel
theorem at_300_102 : j_at 300 102 = some (.baload, 0, 0, 0) := by decide +kernel
theorem at_300_103 : j_at 300 103 = some (.bastore, 0, 0, 0) := by decide +kernel
theorem at_300_104 : j_at 300 104 = some (.iload 6, 0, 0, 0) := by decide +kernel
theorem at_300_106 : j_at 300 106 = some (.ifCond .eq 12, 118, 0, 0) := by decide +kernel
theorem at_300_109 : j_at 300 109 = some (.aload_n 2, 0, 0, 0) := by decide +kernel
theorem at_300_110 : j_at 300 110 = some (.iinc 5 (-1), 0, 0, 0) := by decide +kernel
theorem at_300_113 : j_at 300 113 = some (.iload 5, 0, 0, 0) := by decide +kernel
theorem at_300_115 : j_at 300 115 = some (.bipush 45, 0, 0, 45) := by decide +kernel
theorem at_300_117 : j_at 300 117 = some (.bastore, 0, 0, 0) := by decide +kernel
theorem at_300_118 : j_at 300 118 = some (.iload 5, 0, 0, 0) := by decide +kernel
theorem at_300_120 : j_at 300 120 = some (.ireturn, 0, 0, 0) := by decide +kernel
theorem at_301_0 : j_at 301 0 = some (.iconst 1, 0, 0, 1) := by decide +kernel
theorem at_301_1 : j_at 301 1 = some (.istore_n 1, 0, 0, 0) := by decide +kernel
theorem at_301_2 : j_at 301 2 = some (.iload_n 0, 0, 0, 0) := by decide +kernel
theorem at_301_3 : j_at 301 3 = some (.ifCond .lt 8, 11, 0, 0) := by decide +kernel
theorem at_301_6 : j_at 301 6 = some (.iconst 0, 0, 0, 0) := by decide +kernel
theorem at_301_7 : j_at 301 7 = some (.istore_n 1, 0, 0, 0) := by decide +kernel
theorem at_301_8 : j_at 301 8 = some (.iload_n 0, 0, 0, 0) := by decide +kernel
theorem at_301_9 : j_at 301 9 = some (.ineg, 0, 0, 0) := by decide +kernel
theorem at_301_10 : j_at 301 10 = some (.istore_n 0, 0, 0, 0) := by decide +kernel
theorem at_301_11 : j_at 301 11 = some (.bipush (-10), 0, 0, -10) := by decide +kernel
theorem at_301_13 : j_at 301 13 = some (.istore_n 2, 0, 0, 0) := by decide +kernel
theorem at_301_14 : j_at 301 14 = some (.iconst 1, 0, 0, 1) := by decide +kernel
theorem at_301_15 : j_at 301 15 = some (.istore_n 3, 0, 0, 0) := by decide +kernel
theorem at_301_16 : j_at 301 16 = some (.iload_n 3, 0, 0, 0) := by decide +kernel
theorem at_301_17 : j_at 301 17 = some (.bipush 10, 0, 0, 10) := by decide +kernel
theorem at_301_19 : j_at 301 19 = some (.if_icmp .ge 23, 42, 0, 0) := by decide +kernel
theorem at_301_22 : j_at 301 22 = some (.iload_n 0, 0, 0, 0) := by decide +kernel
theorem at_301_23 : j_at 301 23 = some (.iload_n 2, 0, 0, 0) := by decide +kernel
theorem at_301_24 : j_at 301 24 = some (.if_icmp .le 7, 31, 0, 0) := by decide +kernel
theorem at_301_27 : j_at 301 27 = some (.iload_n 3, 0, 0, 0) := by decide +kernel
theorem at_301_28 : j_at 301 28 = some (.iload_n 1, 0, 0, 0) := by decide +kernel
theorem at_301_29 : j_at 301 29 = some (.iadd, 0, 0, 0) := by decide +kernel
theorem at_301_30 : j_at 301 30 = some (.ireturn, 0, 0, 0) := by decide +kernel
theorem at_301_31 : j_at 301 31 = some (.bipush 10, 0, 0, 10) := by decide +kernel
theorem at_301_33 : j_at 301 33 = some (.iload_n 2, 0, 0, 0) := by decide +kernel
theorem at_301_34 : j_at 301 34 = some (.imul, 0, 0, 0) := by decide +kernel
theorem at_301_35 : j_at 301 35 = some (.istore_n 2, 0, 0, 0) := by decide +kernel
theorem at_301_36 : j_at 301 36 = some (.iinc 3 1, 0, 0, 0) := by decide +kernel
theorem at_301_39 : j_at 301 39 = some (.goto (-23), 16, 0, 0) := by decide +kernel
theorem at_301_42 : j_at 301 42 = some (.bipush 10, 0, 0, 10) := by decide +kernel
theorem at_301_44 : j_at 301 44 = some (.iload_n 1, 0, 0, 0) := by decide +kernel
theorem at_301_45 : j_at 301 45 = some (.iadd, 0, 0, 0) := by decide +kernel
theorem at_301_46 : j_at 301 46 = some (.ireturn, 0, 0, 0) := by decide +kernel
theorem at_302_0 : j_at 302 0 = some (.iload_n 1, 0, 0, 0) := by decide +kernel
theorem at_302_1 : j_at 302 1 = some (.iload_n 0, 0, 0, 0) := by decide +kernel
theorem at_302_2 : j_at 302 2 = some (.if_icmp .ge 35, 37, 0, 0) := by decide +kernel
theorem at_302_5 : j_at 302 5 = some (.new 43, 9997, 0, 0) := by decide +kernel
theorem at_302_8 : j_at 302 8 = some (.dup, 0, 0, 0) := by decide +kernel
theorem at_302_9 : j_at 302 9 = some (.new 45, 9997, 0, 0) := by decide +kernel
theorem at_302_12 : j_at 302 12 = some (.dup, 0, 0, 0) := by decide +kernel
theorem at_302_13 : j_at 302 13 = some (.invokespecial 47, 9997, 0, 0) := by decide +kernel
theorem at_302_16 : j_at 302 16 = some (.iload_n 0, 0, 0, 0) := by decide +kernel
theorem at_302_17 : j_at 302 17 = some (.invokevirtual 54, 9997, 0, 0) := by decide +kernel
theorem at_302_20 : j_at 302 20 = some (.ldc_w 337, 9997, 0, 0) := by decide +kernel
theorem at_302_23 : j_at 302 23 = some (.invokevirtual 50, 9997, 0, 0) := by decide +kernel
theorem at_302_26 : j_at 302 26 = some (.iload_n 1, 0, 0, 0) := by decide +kernel
theorem at_302_27 : j_at 302 27 = some (.invokevirtual 54, 9997, 0, 0) := by decide +kernel
theorem at_302_30 : j_at 302 30 = some (.invokevirtual 61, 9997, 0, 0) := by decide +kernel
theorem at_302_33 : j_at 302 33 = some (.invokespecial 65, 9997, 0, 0) := by decide +kernel
theorem at_302_36 : j_at 302 36 = some (.athrow, 0, 0, 0) := by decide +kernel
theorem at_302_37 : j_at 302 37 = some (.return_, 0, 0, 0) := by decide +kernel
theorem at_303_0 : j_at 303 0 = some (.iload_n 1, 0, 0, 0) := by decide +kernel
theorem at_303_1 : j_at 303 1 = some (.iload_n 2, 0, 0, 0) := by decide +kernel
theorem at_303_2 : j_at 303 2 = some (.invokestatic 343, 302, 2, 0) := by decide +kernel
theorem at_303_5 : j_at 303 5 = some (.iload_n 2, 0, 0, 0) := by decide +kernel
theorem at_303_6 : j_at 303 6 = some (.iload_n 1, 0, 0, 0) := by decide +kernel
theorem at_303_7 : j_at 303 7 = some (.isub, 0, 0, 0) := by decide +kernel
theorem at_303_8 : j_at 303 8 = some (.istore_n 3, 0, 0, 0) := by decide +kernel
theorem at_303_9 : j_at 303 9 = some (.iload_n 3, 0, 0, 0) := by decide +kernel
theorem at_303_10 : j_at 303 10 = some (.newarray .byte, 0, 0, 0) := by decide +kernel
theorem at_303_12 : j_at 303 12 = some (.astore 4, 0, 0, 0) := by decide +kernel
theorem at_303_14 : j_at 303 14 = some (.aload_n 0, 0, 0, 0) := by decide +kernel
theorem at_303_15 : j_at 303 15 = some (.iload_n 1, 0, 0, 0) := by decide +kernel
theorem at_303_16 : j_at 303 16 = some (.aload 4, 0, 0, 0) := by decide +kernel
theorem at_303_18 : j_at 303 18 = some (.iconst 0, 0, 0, 0) := by decide +kernel
theorem at_303_19 : j_at 303 19 = some (.aload_n 0, 0, 0, 0) := by decide +kernel
theorem at_303_20 : j_at 303 20 = some (.arraylength, 0, 0, 0) := by decide +kernel
theorem at_303_21 : j_at 303 21 = some (.iload_n 1, 0, 0, 0) := by decide +kernel
theorem at_303_22 : j_at 303 22 = some (.isub, 0, 0, 0) := by decide +kernel
theorem at_303_23 : j_at 303 23 = some (.iload_n 3, 0, 0, 0) := by decide +kernel
theorem at_303_24 : j_at 303 24 = some (.invokestatic 304, 268, 2, 0) := by decide +kernel
theorem at_303_27 : j_at 303 27 = some (.invokestatic 150, 9999, 5, 0) := by decide +kernel
theorem at_303_30 : j_at 303 30 = some (.aload 4, 0, 0, 0) := by decide +kernel
theorem at_303_32 : j_at 303 32 = some (.areturn, 0, 0, 0) := by decide +kernel
theorem at_304_0 : j_at 304 0 = some (.iload_n 1, 0, 0, 0) := by decide +kernel
theorem at_304_1 : j_at 304 1 = some (.ifCond .ne 9, 10, 0, 0) := by decide +kernel
theorem at_304_4 : j_at 304 4 = some (.iload_n 2, 0, 0, 0) := by decide +kernel
theorem at_304_5 : j_at 304 5 = some (.aload_n 0, 0, 0, 0) := by decide +kernel
theorem at_304_6 : j_at 304 6 = some (.arraylength, 0, 0, 0) := by decide +kernel
theorem at_304_7 : j_at 304 7 = some (.if_icmp .eq 10, 17, 0, 0) := by decide +kernel
theorem at_304_10 : j_at 304 10 = some (.aload_n 0, 0, 0, 0) := by decide +kernel
theorem at_304_11 : j_at 304 11 = some (.iload_n 1, 0, 0, 0) := by decide +kernel
theorem at_304_12 : j_at 304 12 = some (.iload_n 2, 0, 0, 0) := by decide +kernel
theorem at_304_13 : j_at 304 13 = some (.invokestatic 339, 303, 3, 0) := by decide +kernel
theorem at_304_16 : j_at 304 16 = some (.areturn, 0, 0, 0) := by decide +kernel
theorem at_304_17 : j_at 304 17 = some (.aload_n 0, 0, 0, 0) := by decide +kernel
theorem at_304_18 : j_at 304 18 = some (.invokevirtual 310, 9996, 0, 0) := by decide +kernel
theorem at_304_21 : j_at 304 21 = some (.checkcast 311, 0, 0, 0) := by decide +kernel
theorem at_304_24 : j_at 304 24 = some (.areturn, 0, 0, 0) := by decide +kernel
theorem at_305_0 : j_at 305 0 = some (.iload_n 1, 0, 0, 0) := by decide +kernel
theorem at_305_1 : j_at 305 1 = some (.aload_n 0, 0, 0, 0) := by decide +kernel
theorem at_305_2 : j_at 305 2 = some (.arraylength, 0, 0, 0) := by decide +kernel
theorem at_305_3 : j_at 305 3 = some (.if_icmp .ne 11, 14, 0, 0) := by decide +kernel
theorem at_305_6 : j_at 305 6 = some (.aload_n 0, 0, 0, 0) := by decide +kernel
theorem at_305_7 : j_at 305 7 = some (.invokevirtual 310, 9996, 0, 0) := by decide +kernel
theorem at_305_10 : j_at 305 10 = some (.checkcast 311, 0, 0, 0) := by decide +kernel
theorem at_305_13 : j_at 305 13 = some (.areturn, 0, 0, 0) := by decide +kernel
theorem at_305_14 : j_at 305 14 = some (.iload_n 1, 0, 0, 0) := by decide +kernel
theorem at_305_15 : j_at 305 15 = some (.newarray .byte, 0, 0, 0) := by decide +kernel
theorem at_305_17 : j_at 305 17 = some (.astore_n 2, 0, 0, 0) := by decide +kernel
theorem at_305_18 : j_at 305 18 = some (.aload_n 0, 0, 0, 0) := by decide +kernel
theorem at_305_19 : j_at 305 19 = some (.iconst 0, 0, 0, 0) := by decide +kernel
theorem at_305_20 : j_at 305 20 = some (.aload_n 2, 0, 0, 0) := by decide +kernel
theorem at_305_21 : j_at 305 21 = some (.iconst 0, 0, 0, 0) := by decide +kernel
theorem at_305_22 : j_at 305 22 = some (.aload_n 0, 0, 0, 0) := by decide +kernel
theorem at_305_23 : j_at 305 23 = some (.arraylength, 0, 0, 0) := by decide +kernel
theorem at_305_24 : j_at 305 24 = some (.iload_n 1, 0, 0, 0) := by decide +kernel
theorem at_305_25 : j_at 305 25 = some (.invokestatic 304, 268, 2, 0) := by decide +kernel
theorem at_305_28 : j_at 305 28 = some (.invokestatic 150, 9999, 5, 0) := by decide +kernel
theorem at_305_31 : j_at 305 31 = some (.aload_n 2, 0, 0, 0) := by decide +kernel
theorem at_305_32 : j_at 305 32 = some (.areturn, 0, 0, 0) := by decide +kernel
theorem at_306_0 : j_at 306 0 = some (.iload_n 0, 0, 0, 0) := by decide +kernel
theorem at_306_1 : j_at 306 1 = some (.iload_n 1, 0, 0, 0) := by decide +kernel
theorem at_306_2 : j_at 306 2 = some (.iload_n 2, 0, 0, 0) := by decide +kernel
theorem at_306_3 : j_at 306 3 = some (.invokestatic 194, 307, 2, 0) := by decide +kernel
theorem at_306_6 : j_at 306 6 = some (.iadd, 0, 0, 0) := by decide +kernel
theorem at_306_7 : j_at 306 7 = some (.istore_n 3, 0, 0, 0) := by decide +kernel
theorem at_306_8 : j_at 306 8 = some (.iconst 0, 0, 0, 0) := by decide +kernel
theorem at_306_9 : j_at 306 9 = some (.iload_n 3, 0, 0, 0) := by decide +kernel
theorem at_306_10 : j_at 306 10 = some (.if_icmp .ge 11, 21, 0, 0) := by decide +kernel
theorem at_306_13 : j_at 306 13 = some (.iload_n 3, 0, 0, 0) := by decide +kernel
theorem at_306_14 : j_at 306 14 = some (.ldc 200, 0, 0, 2147483639) := by decide +kernel
theorem at_306_16 : j_at 306 16 = some (.if_icmp .gt 5, 21, 0, 0) := by decide +kernel
theorem at_306_19 : j_at 306 19 = some (.iload_n 3, 0, 0, 0) := by decide +kernel
theorem at_306_20 : j_at 306 20 = some (.ireturn, 0, 0, 0) := by decide +kernel
theorem at_306_21 : j_at 306 21 = some (.iload_n 0, 0, 0, 0) := by decide +kernel
theorem at_306_22 : j_at 306 22 = some (.iload_n 1, 0, 0, 0) := by decide +kernel
theorem at_306_23 : j_at 306 23 = some (.invokestatic 201, 9997, 0, 0) := by decide +kernel
theorem at_306_26 : j_at 306 26 = some (.ireturn, 0, 0, 0) := by decide +kernel
theorem at_307_0 : j_at 307 0 = some (.iload_n 0, 0, 0, 0) := by decide +kernel
theorem at_307_1 : j_at 307 1 = some (.iload_n 1, 0, 0, 0) := by decide +kernel
theorem at_307_2 : j_at 307 2 = some (.if_icmp .lt 7, 9, 0, 0) := by decide +kernel
theorem at_307_5 : j_at 307 5 = some (.iload_n 0, 0, 0, 0) := by decide +kernel
theorem at_307_6 : j_at 307 6 = some (.goto 4, 10, 0, 0) := by decide +kernel
theorem at_307_9 : j_at 307 9 = some (.iload_n 1, 0, 0, 0) := by decide +kernel
theorem at_307_10 : j_at 307 10 = some (.ireturn, 0, 0, 0) := by decide +kernel
theorem at_308_0 : j_at 308 0 = some (.ldc 7, 0, 0, 69069) := by decide +kernel
theorem at_308_2 : j_at 308 2 = some (.iload_n 1, 0, 0, 0) := by decide +kernel
theorem at_308_3 : j_at 308 3 = some (.aload_n 0, 0, 0, 0) := by decide +kernel
theorem at_308_4 : j_at 308 4 = some (.arraylength, 0, 0, 0) := by decide +kernel
theorem at_308_5 : j_at 308 5 = some (.if_icmp .ge 9, 14, 0, 0) := by decide +kernel
theorem at_308_8 : j_at 308 8 = some (.aload_n 0, 0, 0, 0) := by decide +kernel
theorem at_308_9 : j_at 308 9 = some (.iload_n 1, 0, 0, 0) := by decide +kernel
theorem at_308_10 : j_at 308 10 = some (.iaload, 0, 0, 0) := by decide +kernel
theorem at_308_11 : j_at 308 11 = some (.goto 4, 15, 0, 0) := by decide +kernel
theorem at_308_14 : j_at 308 14 = some (.iconst 0, 0, 0, 0) := by decide +kernel
theorem at_308_15 : j_at 308 15 = some (.sipush 1009, 0, 0, 1009) := by decide +kernel
theorem at_308_18 : j_at 308 18 = some (.iload_n 1, 0, 0, 0) := by decide +kernel
theorem at_308_19 : j_at 308 19 = some (.imul, 0, 0, 0) := by decide +kernel
theorem at_308_20 : j_at 308 20 = some (.iadd, 0, 0, 0) := by decide +kernel
theorem at_308_21 : j_at 308 21 = some (.imul, 0, 0, 0) := by decide +kernel
theorem at_308_22 : j_at 308 22 = some (.sipush 12345, 0, 0, 12345) := by decide +kernel
theorem at_308_25 : j_at 308 25 = some (.iadd, 0, 0, 0) := by decide +kernel
theorem at_308_26 : j_at 308 26 = some (.istore_n 2, 0, 0, 0) := by decide +kernel
theorem at_308_27 : j_at 308 27 = some (.iload_n 2, 0, 0, 0) := by decide +kernel
theorem at_308_28 : j_at 308 28 = some (.iload_n 2, 0, 0, 0) := by decide +kernel
theorem at_308_29 : j_at 308 29 = some (.bipush 13, 0, 0, 13) := by decide +kernel
theorem at_308_31 : j_at 308 31 = some (.iushr, 0, 0, 0) := by decide +kernel
theorem at_308_32 : j_at 308 32 = some (.ixor, 0, 0, 0) := by decide +kernel
theorem at_308_33 : j_at 308 33 = some (.ldc 8, 0, 0, 1103515245) := by decide +kernel
theorem at_308_35 : j_at 308 35 = some (.imul, 0, 0, 0) := by decide +kernel
theorem at_308_36 : j_at 308 36 = some (.istore_n 2, 0, 0, 0) := by decide +kernel
theorem at_308_37 : j_at 308 37 = some (.iload_n 2, 0, 0, 0) := by decide +kernel
theorem at_308_38 : j_at 308 38 = some (.iload_n 2, 0, 0, 0) := by decide +kernel
theorem at_308_39 : j_at 308 39 = some (.bipush 16, 0, 0, 16) := by decide +kernel
theorem at_308_41 : j_at 308 41 = some (.iushr, 0, 0, 0) := by decide +kernel
theorem at_308_42 : j_at 308 42 = some (.ixor, 0, 0, 0) := by decide +kernel
theorem at_308_43 : j_at 308 43 = some (.ireturn, 0, 0, 0) := by decide +kernel
theorem at_309_0 : j_at 309 0 = some (.iconst 1, 0, 0, 1) := by decide +kernel
theorem at_309_1 : j_at 309 1 = some (.istore_n 2, 0, 0, 0) := by decide +kernel
theorem at_309_2 : j_at 309 2 = some (.iconst 0, 0, 0, 0) := by decide +kernel
theorem at_309_3 : j_at 309 3 = some (.istore_n 3, 0, 0, 0) := by decide +kernel
theorem at_309_4 : j_at 309 4 = some (.iload_n 3, 0, 0, 0) := by decide +kernel
theorem at_309_5 : j_at 309 5 = some (.aload_n 1, 0, 0, 0) := by decide +kernel
theorem at_309_6 : j_at 309 6 = some (.invokevirtual 9, 279, 0, 0) := by decide +kernel
theorem at_309_9 : j_at 309 9 = some (.if_icmp .ge 32, 41, 0, 0) := by decide +kernel
theorem at_309_12 : j_at 309 12 = some (.iload_n 2, 0, 0, 0) := by decide +kernel
theorem at_309_13 : j_at 309 13 = some (.aload_n 0, 0, 0, 0) := by decide +kernel
theorem at_309_14 : j_at 309 14 = some (.aload_n 1, 0, 0, 0) := by decide +kernel
theorem at_309_15 : j_at 309 15 = some (.iload_n 3, 0, 0, 0) := by decide +kernel
theorem at_309_16 : j_at 309 16 = some (.invokevirtual 15, 272, 1, 0) := by decide +kernel
theorem at_309_19 : j_at 309 19 = some (.invokevirtual 19, 94, 1, 0) := by decide +kernel
theorem at_309_22 : j_at 309 22 = some (.iload_n 3, 0, 0, 0) := by decide +kernel
theorem at_309_23 : j_at 309 23 = some (.iconst 1, 0, 0, 1) := by decide +kernel
theorem at_309_24 : j_at 309 24 = some (.iadd, 0, 0, 0) := by decide +kernel
theorem at_309_25 : j_at 309 25 = some (.if_icmp .ne 7, 32, 0, 0) := by decide +kernel
theorem at_309_28 : j_at 309 28 = some (.iconst 1, 0, 0, 1) := by decide +kernel
theorem at_309_29 : j_at 309 29 = some (.goto 4, 33, 0, 0) := by decide +kernel
theorem at_309_32 : j_at 309 32 = some (.iconst 0, 0, 0, 0) := by decide +kernel
theorem at_309_33 : j_at 309 33 = some (.iand, 0, 0, 0) := by decide +kernel
theorem at_309_34 : j_at 309 34 = some (.istore_n 2, 0, 0, 0) := by decide +kernel
theorem at_309_35 : j_at 309 35 = some (.iinc 3 1, 0, 0, 0) := by decide +kernel
theorem at_309_38 : j_at 309 38 = some (.goto (-34), 4, 0, 0) := by decide +kernel
theorem at_309_41 : j_at 309 41 = some (.iload_n 2, 0, 0, 0) := by decide +kernel
theorem at_309_42 : j_at 309 42 = some (.ireturn, 0, 0, 0) := by decide +kernel
