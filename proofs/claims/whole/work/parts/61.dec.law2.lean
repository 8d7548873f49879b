theorem dlaw_779 : decode code 779 = .ok (.ifCond .eq 5, 3) := by decide +kernel
theorem dlaw_782 : decode code 782 = .ok (.iconst 0, 1) := by decide +kernel
theorem dlaw_783 : decode code 783 = .ok (.ireturn, 1) := by decide +kernel
theorem dlaw_784 : decode code 784 = .ok (.goto 669, 3) := by decide +kernel
theorem dlaw_787 : decode code 787 = .ok (.aload_n 1, 1) := by decide +kernel
theorem dlaw_788 : decode code 788 = .ok (.aload_n 0, 1) := by decide +kernel
theorem dlaw_789 : decode code 789 = .ok (.iload 4, 2) := by decide +kernel
theorem dlaw_791 : decode code 791 = .ok (.iconst 1, 1) := by decide +kernel
theorem dlaw_792 : decode code 792 = .ok (.iadd, 1) := by decide +kernel
theorem dlaw_793 : decode code 793 = .ok (.iaload, 1) := by decide +kernel
theorem dlaw_794 : decode code 794 = .ok (.aload_n 0, 1) := by decide +kernel
theorem dlaw_795 : decode code 795 = .ok (.iload 4, 2) := by decide +kernel
theorem dlaw_797 : decode code 797 = .ok (.iconst 2, 1) := by decide +kernel
theorem dlaw_798 : decode code 798 = .ok (.iadd, 1) := by decide +kernel
theorem dlaw_799 : decode code 799 = .ok (.iaload, 1) := by decide +kernel
theorem dlaw_800 : decode code 800 = .ok (.aload_n 0, 1) := by decide +kernel
theorem dlaw_801 : decode code 801 = .ok (.iload 4, 2) := by decide +kernel
theorem dlaw_803 : decode code 803 = .ok (.iconst 3, 1) := by decide +kernel
theorem dlaw_804 : decode code 804 = .ok (.iadd, 1) := by decide +kernel
theorem dlaw_805 : decode code 805 = .ok (.iaload, 1) := by decide +kernel
theorem dlaw_806 : decode code 806 = .ok (.aload_n 3, 1) := by decide +kernel
theorem dlaw_807 : decode code 807 = .ok (.invokestatic 145, 3) := by decide +kernel
theorem dlaw_810 : decode code 810 = .ok (.istore 5, 2) := by decide +kernel
theorem dlaw_812 : decode code 812 = .ok (.aload_n 2, 1) := by decide +kernel
theorem dlaw_813 : decode code 813 = .ok (.aload_n 0, 1) := by decide +kernel
theorem dlaw_814 : decode code 814 = .ok (.iload 4, 2) := by decide +kernel
theorem dlaw_816 : decode code 816 = .ok (.iconst 1, 1) := by decide +kernel
theorem dlaw_817 : decode code 817 = .ok (.iadd, 1) := by decide +kernel
theorem dlaw_818 : decode code 818 = .ok (.iaload, 1) := by decide +kernel
theorem dlaw_819 : decode code 819 = .ok (.aload_n 0, 1) := by decide +kernel
theorem dlaw_820 : decode code 820 = .ok (.iload 4, 2) := by decide +kernel
theorem dlaw_822 : decode code 822 = .ok (.iconst 2, 1) := by decide +kernel
theorem dlaw_823 : decode code 823 = .ok (.iadd, 1) := by decide +kernel
theorem dlaw_824 : decode code 824 = .ok (.iaload, 1) := by decide +kernel
theorem dlaw_825 : decode code 825 = .ok (.aload_n 0, 1) := by decide +kernel
theorem dlaw_826 : decode code 826 = .ok (.iload 4, 2) := by decide +kernel
theorem dlaw_828 : decode code 828 = .ok (.iconst 3, 1) := by decide +kernel
theorem dlaw_829 : decode code 829 = .ok (.iadd, 1) := by decide +kernel
theorem dlaw_830 : decode code 830 = .ok (.iaload, 1) := by decide +kernel
theorem dlaw_831 : decode code 831 = .ok (.invokevirtual 148, 3) := by decide +kernel
theorem dlaw_834 : decode code 834 = .ok (.istore 6, 2) := by decide +kernel
theorem dlaw_836 : decode code 836 = .ok (.aload_n 2, 1) := by decide +kernel
theorem dlaw_837 : decode code 837 = .ok (.invokevirtual 105, 3) := by decide +kernel
theorem dlaw_840 : decode code 840 = .ok (.iload 5, 2) := by decide +kernel
theorem dlaw_842 : decode code 842 = .ok (.if_icmp .eq 5, 3) := by decide +kernel
theorem dlaw_845 : decode code 845 = .ok (.iconst 0, 1) := by decide +kernel
theorem dlaw_846 : decode code 846 = .ok (.ireturn, 1) := by decide +kernel
theorem dlaw_847 : decode code 847 = .ok (.iload 5, 2) := by decide +kernel
theorem dlaw_849 : decode code 849 = .ok (.ifCond .ne 15, 3) := by decide +kernel
theorem dlaw_852 : decode code 852 = .ok (.aload_n 3, 1) := by decide +kernel
theorem dlaw_853 : decode code 853 = .ok (.iconst 0, 1) := by decide +kernel
theorem dlaw_854 : decode code 854 = .ok (.laload, 1) := by decide +kernel
theorem dlaw_855 : decode code 855 = .ok (.iload 6, 2) := by decide +kernel
theorem dlaw_857 : decode code 857 = .ok (.i2l, 1) := by decide +kernel
theorem dlaw_858 : decode code 858 = .ok (.lcmp, 1) := by decide +kernel
theorem dlaw_859 : decode code 859 = .ok (.ifCond .eq 5, 3) := by decide +kernel
theorem dlaw_862 : decode code 862 = .ok (.iconst 0, 1) := by decide +kernel
theorem dlaw_863 : decode code 863 = .ok (.ireturn, 1) := by decide +kernel
theorem dlaw_864 : decode code 864 = .ok (.goto 589, 3) := by decide +kernel
theorem dlaw_867 : decode code 867 = .ok (.aload_n 1, 1) := by decide +kernel
theorem dlaw_868 : decode code 868 = .ok (.aload_n 0, 1) := by decide +kernel
theorem dlaw_869 : decode code 869 = .ok (.iload 4, 2) := by decide +kernel
theorem dlaw_871 : decode code 871 = .ok (.iconst 1, 1) := by decide +kernel
theorem dlaw_872 : decode code 872 = .ok (.iadd, 1) := by decide +kernel
theorem dlaw_873 : decode code 873 = .ok (.iaload, 1) := by decide +kernel
theorem dlaw_874 : decode code 874 = .ok (.aload_n 0, 1) := by decide +kernel
theorem dlaw_875 : decode code 875 = .ok (.iload 4, 2) := by decide +kernel
theorem dlaw_877 : decode code 877 = .ok (.iconst 2, 1) := by decide +kernel
theorem dlaw_878 : decode code 878 = .ok (.iadd, 1) := by decide +kernel
theorem dlaw_879 : decode code 879 = .ok (.iaload, 1) := by decide +kernel
theorem dlaw_880 : decode code 880 = .ok (.aload_n 3, 1) := by decide +kernel
theorem dlaw_881 : decode code 881 = .ok (.invokestatic 149, 3) := by decide +kernel
theorem dlaw_884 : decode code 884 = .ok (.istore 5, 2) := by decide +kernel
theorem dlaw_886 : decode code 886 = .ok (.aload_n 2, 1) := by decide +kernel
theorem dlaw_887 : decode code 887 = .ok (.aload_n 0, 1) := by decide +kernel
theorem dlaw_888 : decode code 888 = .ok (.iload 4, 2) := by decide +kernel
theorem dlaw_890 : decode code 890 = .ok (.iconst 1, 1) := by decide +kernel
theorem dlaw_891 : decode code 891 = .ok (.iadd, 1) := by decide +kernel
theorem dlaw_892 : decode code 892 = .ok (.iaload, 1) := by decide +kernel
theorem dlaw_893 : decode code 893 = .ok (.aload_n 0, 1) := by decide +kernel
theorem dlaw_894 : decode code 894 = .ok (.iload 4, 2) := by decide +kernel
theorem dlaw_896 : decode code 896 = .ok (.iconst 2, 1) := by decide +kernel
theorem dlaw_897 : decode code 897 = .ok (.iadd, 1) := by decide +kernel
theorem dlaw_898 : decode code 898 = .ok (.iaload, 1) := by decide +kernel
theorem dlaw_899 : decode code 899 = .ok (.invokevirtual 151, 3) := by decide +kernel
theorem dlaw_902 : decode code 902 = .ok (.istore 6, 2) := by decide +kernel
theorem dlaw_904 : decode code 904 = .ok (.aload_n 2, 1) := by decide +kernel
theorem dlaw_905 : decode code 905 = .ok (.invokevirtual 105, 3) := by decide +kernel
theorem dlaw_908 : decode code 908 = .ok (.iload 5, 2) := by decide +kernel
theorem dlaw_910 : decode code 910 = .ok (.if_icmp .eq 5, 3) := by decide +kernel
theorem dlaw_913 : decode code 913 = .ok (.iconst 0, 1) := by decide +kernel
theorem dlaw_914 : decode code 914 = .ok (.ireturn, 1) := by decide +kernel
theorem dlaw_915 : decode code 915 = .ok (.iload 5, 2) := by decide +kernel
theorem dlaw_917 : decode code 917 = .ok (.ifCond .ne 15, 3) := by decide +kernel
theorem dlaw_920 : decode code 920 = .ok (.aload_n 3, 1) := by decide +kernel
theorem dlaw_921 : decode code 921 = .ok (.iconst 0, 1) := by decide +kernel
theorem dlaw_922 : decode code 922 = .ok (.laload, 1) := by decide +kernel
theorem dlaw_923 : decode code 923 = .ok (.iload 6, 2) := by decide +kernel
theorem dlaw_925 : decode code 925 = .ok (.i2l, 1) := by decide +kernel
theorem dlaw_926 : decode code 926 = .ok (.lcmp, 1) := by decide +kernel
theorem dlaw_927 : decode code 927 = .ok (.ifCond .eq 5, 3) := by decide +kernel
theorem dlaw_930 : decode code 930 = .ok (.iconst 0, 1) := by decide +kernel
theorem dlaw_931 : decode code 931 = .ok (.ireturn, 1) := by decide +kernel
theorem dlaw_932 : decode code 932 = .ok (.goto 521, 3) := by decide +kernel
theorem dlaw_935 : decode code 935 = .ok (.aload_n 1, 1) := by decide +kernel
theorem dlaw_936 : decode code 936 = .ok (.aload_n 0, 1) := by decide +kernel
theorem dlaw_937 : decode code 937 = .ok (.iload 4, 2) := by decide +kernel
theorem dlaw_939 : decode code 939 = .ok (.iconst 1, 1) := by decide +kernel
theorem dlaw_940 : decode code 940 = .ok (.iadd, 1) := by decide +kernel
theorem dlaw_941 : decode code 941 = .ok (.iaload, 1) := by decide +kernel
theorem dlaw_942 : decode code 942 = .ok (.aload_n 0, 1) := by decide +kernel
theorem dlaw_943 : decode code 943 = .ok (.iload 4, 2) := by decide +kernel
theorem dlaw_945 : decode code 945 = .ok (.iconst 2, 1) := by decide +kernel
theorem dlaw_946 : decode code 946 = .ok (.iadd, 1) := by decide +kernel
theorem dlaw_947 : decode code 947 = .ok (.iaload, 1) := by decide +kernel
theorem dlaw_948 : decode code 948 = .ok (.aload_n 0, 1) := by decide +kernel
theorem dlaw_949 : decode code 949 = .ok (.iload 4, 2) := by decide +kernel
theorem dlaw_951 : decode code 951 = .ok (.iconst 3, 1) := by decide +kernel
theorem dlaw_952 : decode code 952 = .ok (.iadd, 1) := by decide +kernel
theorem dlaw_953 : decode code 953 = .ok (.iaload, 1) := by decide +kernel
theorem dlaw_954 : decode code 954 = .ok (.aload_n 3, 1) := by decide +kernel
theorem dlaw_955 : decode code 955 = .ok (.invokestatic 152, 3) := by decide +kernel
theorem dlaw_958 : decode code 958 = .ok (.istore 5, 2) := by decide +kernel
theorem dlaw_960 : decode code 960 = .ok (.aload_n 2, 1) := by decide +kernel
theorem dlaw_961 : decode code 961 = .ok (.aload_n 0, 1) := by decide +kernel
theorem dlaw_962 : decode code 962 = .ok (.iload 4, 2) := by decide +kernel
theorem dlaw_964 : decode code 964 = .ok (.iconst 1, 1) := by decide +kernel
theorem dlaw_965 : decode code 965 = .ok (.iadd, 1) := by decide +kernel
theorem dlaw_966 : decode code 966 = .ok (.iaload, 1) := by decide +kernel
theorem dlaw_967 : decode code 967 = .ok (.aload_n 0, 1) := by decide +kernel
theorem dlaw_968 : decode code 968 = .ok (.iload 4, 2) := by decide +kernel
theorem dlaw_970 : decode code 970 = .ok (.iconst 2, 1) := by decide +kernel
theorem dlaw_971 : decode code 971 = .ok (.iadd, 1) := by decide +kernel
theorem dlaw_972 : decode code 972 = .ok (.iaload, 1) := by decide +kernel
theorem dlaw_973 : decode code 973 = .ok (.aload_n 0, 1) := by decide +kernel
theorem dlaw_974 : decode code 974 = .ok (.iload 4, 2) := by decide +kernel
theorem dlaw_976 : decode code 976 = .ok (.iconst 3, 1) := by decide +kernel
theorem dlaw_977 : decode code 977 = .ok (.iadd, 1) := by decide +kernel
theorem dlaw_978 : decode code 978 = .ok (.iaload, 1) := by decide +kernel
theorem dlaw_979 : decode code 979 = .ok (.invokevirtual 154, 3) := by decide +kernel
theorem dlaw_982 : decode code 982 = .ok (.istore 6, 2) := by decide +kernel
theorem dlaw_984 : decode code 984 = .ok (.aload_n 2, 1) := by decide +kernel
theorem dlaw_985 : decode code 985 = .ok (.invokevirtual 105, 3) := by decide +kernel
theorem dlaw_988 : decode code 988 = .ok (.iload 5, 2) := by decide +kernel
theorem dlaw_990 : decode code 990 = .ok (.if_icmp .eq 5, 3) := by decide +kernel
theorem dlaw_993 : decode code 993 = .ok (.iconst 0, 1) := by decide +kernel
theorem dlaw_994 : decode code 994 = .ok (.ireturn, 1) := by decide +kernel
theorem dlaw_995 : decode code 995 = .ok (.iload 5, 2) := by decide +kernel
theorem dlaw_997 : decode code 997 = .ok (.ifCond .ne 15, 3) := by decide +kernel
theorem dlaw_1000 : decode code 1000 = .ok (.aload_n 3, 1) := by decide +kernel
theorem dlaw_1001 : decode code 1001 = .ok (.iconst 0, 1) := by decide +kernel
theorem dlaw_1002 : decode code 1002 = .ok (.laload, 1) := by decide +kernel
theorem dlaw_1003 : decode code 1003 = .ok (.iload 6, 2) := by decide +kernel
theorem dlaw_1005 : decode code 1005 = .ok (.i2l, 1) := by decide +kernel
theorem dlaw_1006 : decode code 1006 = .ok (.lcmp, 1) := by decide +kernel
theorem dlaw_1007 : decode code 1007 = .ok (.ifCond .eq 5, 3) := by decide +kernel
theorem dlaw_1010 : decode code 1010 = .ok (.iconst 0, 1) := by decide +kernel
theorem dlaw_1011 : decode code 1011 = .ok (.ireturn, 1) := by decide +kernel
theorem dlaw_1012 : decode code 1012 = .ok (.goto 441, 3) := by decide +kernel
theorem dlaw_1015 : decode code 1015 = .ok (.aload_n 1, 1) := by decide +kernel
theorem dlaw_1016 : decode code 1016 = .ok (.aload_n 0, 1) := by decide +kernel
theorem dlaw_1017 : decode code 1017 = .ok (.iload 4, 2) := by decide +kernel
theorem dlaw_1019 : decode code 1019 = .ok (.iconst 1, 1) := by decide +kernel
theorem dlaw_1020 : decode code 1020 = .ok (.iadd, 1) := by decide +kernel
theorem dlaw_1021 : decode code 1021 = .ok (.iaload, 1) := by decide +kernel
theorem dlaw_1022 : decode code 1022 = .ok (.aload_n 0, 1) := by decide +kernel
theorem dlaw_1023 : decode code 1023 = .ok (.iload 4, 2) := by decide +kernel
theorem dlaw_1025 : decode code 1025 = .ok (.iconst 2, 1) := by decide +kernel
theorem dlaw_1026 : decode code 1026 = .ok (.iadd, 1) := by decide +kernel
theorem dlaw_1027 : decode code 1027 = .ok (.iaload, 1) := by decide +kernel
theorem dlaw_1028 : decode code 1028 = .ok (.aload_n 0, 1) := by decide +kernel
theorem dlaw_1029 : decode code 1029 = .ok (.iload 4, 2) := by decide +kernel
theorem dlaw_1031 : decode code 1031 = .ok (.iconst 3, 1) := by decide +kernel
theorem dlaw_1032 : decode code 1032 = .ok (.iadd, 1) := by decide +kernel
theorem dlaw_1033 : decode code 1033 = .ok (.iaload, 1) := by decide +kernel
theorem dlaw_1034 : decode code 1034 = .ok (.aload_n 0, 1) := by decide +kernel
theorem dlaw_1035 : decode code 1035 = .ok (.iload 4, 2) := by decide +kernel
theorem dlaw_1037 : decode code 1037 = .ok (.iconst 4, 1) := by decide +kernel
theorem dlaw_1038 : decode code 1038 = .ok (.iadd, 1) := by decide +kernel
theorem dlaw_1039 : decode code 1039 = .ok (.iaload, 1) := by decide +kernel
theorem dlaw_1040 : decode code 1040 = .ok (.invokestatic 155, 3) := by decide +kernel
theorem dlaw_1043 : decode code 1043 = .ok (.istore 5, 2) := by decide +kernel
theorem dlaw_1045 : decode code 1045 = .ok (.aload_n 2, 1) := by decide +kernel
theorem dlaw_1046 : decode code 1046 = .ok (.aload_n 0, 1) := by decide +kernel
theorem dlaw_1047 : decode code 1047 = .ok (.iload 4, 2) := by decide +kernel
theorem dlaw_1049 : decode code 1049 = .ok (.iconst 1, 1) := by decide +kernel
theorem dlaw_1050 : decode code 1050 = .ok (.iadd, 1) := by decide +kernel
theorem dlaw_1051 : decode code 1051 = .ok (.iaload, 1) := by decide +kernel
theorem dlaw_1052 : decode code 1052 = .ok (.aload_n 0, 1) := by decide +kernel
theorem dlaw_1053 : decode code 1053 = .ok (.iload 4, 2) := by decide +kernel
theorem dlaw_1055 : decode code 1055 = .ok (.iconst 2, 1) := by decide +kernel
theorem dlaw_1056 : decode code 1056 = .ok (.iadd, 1) := by decide +kernel
theorem dlaw_1057 : decode code 1057 = .ok (.iaload, 1) := by decide +kernel
theorem dlaw_1058 : decode code 1058 = .ok (.aload_n 0, 1) := by decide +kernel
theorem dlaw_1059 : decode code 1059 = .ok (.iload 4, 2) := by decide +kernel
theorem dlaw_1061 : decode code 1061 = .ok (.iconst 3, 1) := by decide +kernel
theorem dlaw_1062 : decode code 1062 = .ok (.iadd, 1) := by decide +kernel
theorem dlaw_1063 : decode code 1063 = .ok (.iaload, 1) := by decide +kernel
theorem dlaw_1064 : decode code 1064 = .ok (.aload_n 0, 1) := by decide +kernel
theorem dlaw_1065 : decode code 1065 = .ok (.iload 4, 2) := by decide +kernel
theorem dlaw_1067 : decode code 1067 = .ok (.iconst 4, 1) := by decide +kernel
theorem dlaw_1068 : decode code 1068 = .ok (.iadd, 1) := by decide +kernel
theorem dlaw_1069 : decode code 1069 = .ok (.iaload, 1) := by decide +kernel
theorem dlaw_1070 : decode code 1070 = .ok (.invokevirtual 157, 3) := by decide +kernel
theorem dlaw_1073 : decode code 1073 = .ok (.aload_n 2, 1) := by decide +kernel
theorem dlaw_1074 : decode code 1074 = .ok (.invokevirtual 105, 3) := by decide +kernel
theorem dlaw_1077 : decode code 1077 = .ok (.iload 5, 2) := by decide +kernel
theorem dlaw_1079 : decode code 1079 = .ok (.if_icmp .eq 5, 3) := by decide +kernel
theorem dlaw_1082 : decode code 1082 = .ok (.iconst 0, 1) := by decide +kernel
theorem dlaw_1083 : decode code 1083 = .ok (.ireturn, 1) := by decide +kernel
theorem dlaw_1084 : decode code 1084 = .ok (.goto 369, 3) := by decide +kernel
theorem dlaw_1087 : decode code 1087 = .ok (.aload_n 1, 1) := by decide +kernel
theorem dlaw_1088 : decode code 1088 = .ok (.aload_n 0, 1) := by decide +kernel
theorem dlaw_1089 : decode code 1089 = .ok (.iload 4, 2) := by decide +kernel
theorem dlaw_1091 : decode code 1091 = .ok (.iconst 1, 1) := by decide +kernel
theorem dlaw_1092 : decode code 1092 = .ok (.iadd, 1) := by decide +kernel
theorem dlaw_1093 : decode code 1093 = .ok (.iaload, 1) := by decide +kernel
theorem dlaw_1094 : decode code 1094 = .ok (.aload_n 0, 1) := by decide +kernel
theorem dlaw_1095 : decode code 1095 = .ok (.iload 4, 2) := by decide +kernel
theorem dlaw_1097 : decode code 1097 = .ok (.iconst 2, 1) := by decide +kernel
theorem dlaw_1098 : decode code 1098 = .ok (.iadd, 1) := by decide +kernel
theorem dlaw_1099 : decode code 1099 = .ok (.iaload, 1) := by decide +kernel
theorem dlaw_1100 : decode code 1100 = .ok (.aload_n 0, 1) := by decide +kernel
theorem dlaw_1101 : decode code 1101 = .ok (.iload 4, 2) := by decide +kernel
theorem dlaw_1103 : decode code 1103 = .ok (.iconst 3, 1) := by decide +kernel
theorem dlaw_1104 : decode code 1104 = .ok (.iadd, 1) := by decide +kernel
theorem dlaw_1105 : decode code 1105 = .ok (.iaload, 1) := by decide +kernel
theorem dlaw_1106 : decode code 1106 = .ok (.aload_n 0, 1) := by decide +kernel
theorem dlaw_1107 : decode code 1107 = .ok (.iload 4, 2) := by decide +kernel
theorem dlaw_1109 : decode code 1109 = .ok (.iconst 4, 1) := by decide +kernel
theorem dlaw_1110 : decode code 1110 = .ok (.iadd, 1) := by decide +kernel
theorem dlaw_1111 : decode code 1111 = .ok (.iaload, 1) := by decide +kernel
theorem dlaw_1112 : decode code 1112 = .ok (.invokestatic 158, 3) := by decide +kernel
theorem dlaw_1115 : decode code 1115 = .ok (.istore 5, 2) := by decide +kernel
theorem dlaw_1117 : decode code 1117 = .ok (.aload_n 2, 1) := by decide +kernel
theorem dlaw_1118 : decode code 1118 = .ok (.aload_n 0, 1) := by decide +kernel
theorem dlaw_1119 : decode code 1119 = .ok (.iload 4, 2) := by decide +kernel
theorem dlaw_1121 : decode code 1121 = .ok (.iconst 1, 1) := by decide +kernel
theorem dlaw_1122 : decode code 1122 = .ok (.iadd, 1) := by decide +kernel
theorem dlaw_1123 : decode code 1123 = .ok (.iaload, 1) := by decide +kernel
theorem dlaw_1124 : decode code 1124 = .ok (.aload_n 0, 1) := by decide +kernel
theorem dlaw_1125 : decode code 1125 = .ok (.iload 4, 2) := by decide +kernel
theorem dlaw_1127 : decode code 1127 = .ok (.iconst 2, 1) := by decide +kernel
theorem dlaw_1128 : decode code 1128 = .ok (.iadd, 1) := by decide +kernel
theorem dlaw_1129 : decode code 1129 = .ok (.iaload, 1) := by decide +kernel
theorem dlaw_1130 : decode code 1130 = .ok (.aload_n 0, 1) := by decide +kernel
theorem dlaw_1131 : decode code 1131 = .ok (.iload 4, 2) := by decide +kernel
theorem dlaw_1133 : decode code 1133 = .ok (.iconst 3, 1) := by decide +kernel
theorem dlaw_1134 : decode code 1134 = .ok (.iadd, 1) := by decide +kernel
theorem dlaw_1135 : decode code 1135 = .ok (.iaload, 1) := by decide +kernel
theorem dlaw_1136 : decode code 1136 = .ok (.aload_n 0, 1) := by decide +kernel
theorem dlaw_1137 : decode code 1137 = .ok (.iload 4, 2) := by decide +kernel
theorem dlaw_1139 : decode code 1139 = .ok (.iconst 4, 1) := by decide +kernel
theorem dlaw_1140 : decode code 1140 = .ok (.iadd, 1) := by decide +kernel
theorem dlaw_1141 : decode code 1141 = .ok (.iaload, 1) := by decide +kernel
theorem dlaw_1142 : decode code 1142 = .ok (.invokevirtual 160, 3) := by decide +kernel
theorem dlaw_1145 : decode code 1145 = .ok (.aload_n 2, 1) := by decide +kernel
theorem dlaw_1146 : decode code 1146 = .ok (.invokevirtual 105, 3) := by decide +kernel
theorem dlaw_1149 : decode code 1149 = .ok (.iload 5, 2) := by decide +kernel
theorem dlaw_1151 : decode code 1151 = .ok (.if_icmp .eq 5, 3) := by decide +kernel
theorem dlaw_1154 : decode code 1154 = .ok (.iconst 0, 1) := by decide +kernel
theorem dlaw_1155 : decode code 1155 = .ok (.ireturn, 1) := by decide +kernel
theorem dlaw_1156 : decode code 1156 = .ok (.goto 297, 3) := by decide +kernel
theorem dlaw_1159 : decode code 1159 = .ok (.aload_n 1, 1) := by decide +kernel
theorem dlaw_1160 : decode code 1160 = .ok (.aload_n 3, 1) := by decide +kernel
theorem dlaw_1161 : decode code 1161 = .ok (.invokestatic 161, 3) := by decide +kernel
theorem dlaw_1164 : decode code 1164 = .ok (.istore 5, 2) := by decide +kernel
theorem dlaw_1166 : decode code 1166 = .ok (.aload_n 2, 1) := by decide +kernel
theorem dlaw_1167 : decode code 1167 = .ok (.invokevirtual 163, 3) := by decide +kernel
theorem dlaw_1170 : decode code 1170 = .ok (.istore 6, 2) := by decide +kernel
theorem dlaw_1172 : decode code 1172 = .ok (.aload_n 2, 1) := by decide +kernel
theorem dlaw_1173 : decode code 1173 = .ok (.invokevirtual 105, 3) := by decide +kernel
theorem dlaw_1176 : decode code 1176 = .ok (.iload 5, 2) := by decide +kernel
theorem dlaw_1178 : decode code 1178 = .ok (.if_icmp .eq 5, 3) := by decide +kernel
theorem dlaw_1181 : decode code 1181 = .ok (.iconst 0, 1) := by decide +kernel
theorem dlaw_1182 : decode code 1182 = .ok (.ireturn, 1) := by decide +kernel
theorem dlaw_1183 : decode code 1183 = .ok (.iload 5, 2) := by decide +kernel
theorem dlaw_1185 : decode code 1185 = .ok (.ifCond .ne 22, 3) := by decide +kernel
theorem dlaw_1188 : decode code 1188 = .ok (.aload_n 3, 1) := by decide +kernel
theorem dlaw_1189 : decode code 1189 = .ok (.iconst 0, 1) := by decide +kernel
theorem dlaw_1190 : decode code 1190 = .ok (.laload, 1) := by decide +kernel
theorem dlaw_1191 : decode code 1191 = .ok (.iload 6, 2) := by decide +kernel
theorem dlaw_1193 : decode code 1193 = .ok (.ifCond .eq 7, 3) := by decide +kernel
theorem dlaw_1196 : decode code 1196 = .ok (.lconst 1, 1) := by decide +kernel
theorem dlaw_1197 : decode code 1197 = .ok (.goto 4, 3) := by decide +kernel
theorem dlaw_1200 : decode code 1200 = .ok (.lconst 0, 1) := by decide +kernel
theorem dlaw_1201 : decode code 1201 = .ok (.lcmp, 1) := by decide +kernel
theorem dlaw_1202 : decode code 1202 = .ok (.ifCond .eq 5, 3) := by decide +kernel
theorem dlaw_1205 : decode code 1205 = .ok (.iconst 0, 1) := by decide +kernel
theorem dlaw_1206 : decode code 1206 = .ok (.ireturn, 1) := by decide +kernel
theorem dlaw_1207 : decode code 1207 = .ok (.goto 246, 3) := by decide +kernel
theorem dlaw_1210 : decode code 1210 = .ok (.aload_n 1, 1) := by decide +kernel
theorem dlaw_1211 : decode code 1211 = .ok (.aload_n 0, 1) := by decide +kernel
theorem dlaw_1212 : decode code 1212 = .ok (.iload 4, 2) := by decide +kernel
theorem dlaw_1214 : decode code 1214 = .ok (.iconst 1, 1) := by decide +kernel
theorem dlaw_1215 : decode code 1215 = .ok (.iadd, 1) := by decide +kernel
theorem dlaw_1216 : decode code 1216 = .ok (.iaload, 1) := by decide +kernel
theorem dlaw_1217 : decode code 1217 = .ok (.aload_n 0, 1) := by decide +kernel
theorem dlaw_1218 : decode code 1218 = .ok (.iload 4, 2) := by decide +kernel
theorem dlaw_1220 : decode code 1220 = .ok (.iconst 2, 1) := by decide +kernel
theorem dlaw_1221 : decode code 1221 = .ok (.iadd, 1) := by decide +kernel
theorem dlaw_1222 : decode code 1222 = .ok (.iaload, 1) := by decide +kernel
theorem dlaw_1223 : decode code 1223 = .ok (.aload_n 3, 1) := by decide +kernel
theorem dlaw_1224 : decode code 1224 = .ok (.invokestatic 164, 3) := by decide +kernel
theorem dlaw_1227 : decode code 1227 = .ok (.istore 5, 2) := by decide +kernel
theorem dlaw_1229 : decode code 1229 = .ok (.aload_n 2, 1) := by decide +kernel
theorem dlaw_1230 : decode code 1230 = .ok (.aload_n 0, 1) := by decide +kernel
theorem dlaw_1231 : decode code 1231 = .ok (.iload 4, 2) := by decide +kernel
theorem dlaw_1233 : decode code 1233 = .ok (.iconst 1, 1) := by decide +kernel
theorem dlaw_1234 : decode code 1234 = .ok (.iadd, 1) := by decide +kernel
theorem dlaw_1235 : decode code 1235 = .ok (.iaload, 1) := by decide +kernel
theorem dlaw_1236 : decode code 1236 = .ok (.aload_n 0, 1) := by decide +kernel
theorem dlaw_1237 : decode code 1237 = .ok (.iload 4, 2) := by decide +kernel
theorem dlaw_1239 : decode code 1239 = .ok (.iconst 2, 1) := by decide +kernel
theorem dlaw_1240 : decode code 1240 = .ok (.iadd, 1) := by decide +kernel
theorem dlaw_1241 : decode code 1241 = .ok (.iaload, 1) := by decide +kernel
theorem dlaw_1242 : decode code 1242 = .ok (.invokevirtual 166, 3) := by decide +kernel
theorem dlaw_1245 : decode code 1245 = .ok (.istore 6, 2) := by decide +kernel
theorem dlaw_1247 : decode code 1247 = .ok (.aload_n 2, 1) := by decide +kernel
theorem dlaw_1248 : decode code 1248 = .ok (.invokevirtual 105, 3) := by decide +kernel
theorem dlaw_1251 : decode code 1251 = .ok (.iload 5, 2) := by decide +kernel
theorem dlaw_1253 : decode code 1253 = .ok (.if_icmp .eq 5, 3) := by decide +kernel
theorem dlaw_1256 : decode code 1256 = .ok (.iconst 0, 1) := by decide +kernel
theorem dlaw_1257 : decode code 1257 = .ok (.ireturn, 1) := by decide +kernel
theorem dlaw_1258 : decode code 1258 = .ok (.iload 5, 2) := by decide +kernel
theorem dlaw_1260 : decode code 1260 = .ok (.ifCond .ne 15, 3) := by decide +kernel
theorem dlaw_1263 : decode code 1263 = .ok (.aload_n 3, 1) := by decide +kernel
theorem dlaw_1264 : decode code 1264 = .ok (.iconst 0, 1) := by decide +kernel
theorem dlaw_1265 : decode code 1265 = .ok (.laload, 1) := by decide +kernel
theorem dlaw_1266 : decode code 1266 = .ok (.iload 6, 2) := by decide +kernel
theorem dlaw_1268 : decode code 1268 = .ok (.i2l, 1) := by decide +kernel
theorem dlaw_1269 : decode code 1269 = .ok (.lcmp, 1) := by decide +kernel
theorem dlaw_1270 : decode code 1270 = .ok (.ifCond .eq 5, 3) := by decide +kernel
theorem dlaw_1273 : decode code 1273 = .ok (.iconst 0, 1) := by decide +kernel
theorem dlaw_1274 : decode code 1274 = .ok (.ireturn, 1) := by decide +kernel
theorem dlaw_1275 : decode code 1275 = .ok (.goto 178, 3) := by decide +kernel
theorem dlaw_1278 : decode code 1278 = .ok (.aload_n 1, 1) := by decide +kernel
theorem dlaw_1279 : decode code 1279 = .ok (.aload_n 0, 1) := by decide +kernel
theorem dlaw_1280 : decode code 1280 = .ok (.iload 4, 2) := by decide +kernel
theorem dlaw_1282 : decode code 1282 = .ok (.iconst 1, 1) := by decide +kernel
theorem dlaw_1283 : decode code 1283 = .ok (.iadd, 1) := by decide +kernel
theorem dlaw_1284 : decode code 1284 = .ok (.iaload, 1) := by decide +kernel
theorem dlaw_1285 : decode code 1285 = .ok (.aload_n 3, 1) := by decide +kernel
theorem dlaw_1286 : decode code 1286 = .ok (.invokestatic 167, 3) := by decide +kernel
theorem dlaw_1289 : decode code 1289 = .ok (.istore 5, 2) := by decide +kernel
theorem dlaw_1291 : decode code 1291 = .ok (.aload_n 2, 1) := by decide +kernel
theorem dlaw_1292 : decode code 1292 = .ok (.aload_n 0, 1) := by decide +kernel
theorem dlaw_1293 : decode code 1293 = .ok (.iload 4, 2) := by decide +kernel
theorem dlaw_1295 : decode code 1295 = .ok (.iconst 1, 1) := by decide +kernel
theorem dlaw_1296 : decode code 1296 = .ok (.iadd, 1) := by decide +kernel
theorem dlaw_1297 : decode code 1297 = .ok (.iaload, 1) := by decide +kernel
theorem dlaw_1298 : decode code 1298 = .ok (.invokevirtual 169, 3) := by decide +kernel
theorem dlaw_1301 : decode code 1301 = .ok (.istore 6, 2) := by decide +kernel
theorem dlaw_1303 : decode code 1303 = .ok (.aload_n 2, 1) := by decide +kernel
theorem dlaw_1304 : decode code 1304 = .ok (.invokevirtual 105, 3) := by decide +kernel
theorem dlaw_1307 : decode code 1307 = .ok (.iload 5, 2) := by decide +kernel
theorem dlaw_1309 : decode code 1309 = .ok (.if_icmp .eq 5, 3) := by decide +kernel
theorem dlaw_1312 : decode code 1312 = .ok (.iconst 0, 1) := by decide +kernel
theorem dlaw_1313 : decode code 1313 = .ok (.ireturn, 1) := by decide +kernel
theorem dlaw_1314 : decode code 1314 = .ok (.iload 5, 2) := by decide +kernel
theorem dlaw_1316 : decode code 1316 = .ok (.ifCond .ne 15, 3) := by decide +kernel
theorem dlaw_1319 : decode code 1319 = .ok (.aload_n 3, 1) := by decide +kernel
theorem dlaw_1320 : decode code 1320 = .ok (.iconst 0, 1) := by decide +kernel
theorem dlaw_1321 : decode code 1321 = .ok (.laload, 1) := by decide +kernel
theorem dlaw_1322 : decode code 1322 = .ok (.iload 6, 2) := by decide +kernel
theorem dlaw_1324 : decode code 1324 = .ok (.i2l, 1) := by decide +kernel
theorem dlaw_1325 : decode code 1325 = .ok (.lcmp, 1) := by decide +kernel
theorem dlaw_1326 : decode code 1326 = .ok (.ifCond .eq 5, 3) := by decide +kernel
theorem dlaw_1329 : decode code 1329 = .ok (.iconst 0, 1) := by decide +kernel
theorem dlaw_1330 : decode code 1330 = .ok (.ireturn, 1) := by decide +kernel
theorem dlaw_1331 : decode code 1331 = .ok (.goto 122, 3) := by decide +kernel
theorem dlaw_1334 : decode code 1334 = .ok (.aload_n 1, 1) := by decide +kernel
theorem dlaw_1335 : decode code 1335 = .ok (.aload_n 0, 1) := by decide +kernel
theorem dlaw_1336 : decode code 1336 = .ok (.iload 4, 2) := by decide +kernel
theorem dlaw_1338 : decode code 1338 = .ok (.iconst 1, 1) := by decide +kernel
theorem dlaw_1339 : decode code 1339 = .ok (.iadd, 1) := by decide +kernel
theorem dlaw_1340 : decode code 1340 = .ok (.iaload, 1) := by decide +kernel
theorem dlaw_1341 : decode code 1341 = .ok (.aload_n 3, 1) := by decide +kernel
theorem dlaw_1342 : decode code 1342 = .ok (.invokestatic 170, 3) := by decide +kernel
theorem dlaw_1345 : decode code 1345 = .ok (.istore 5, 2) := by decide +kernel
theorem dlaw_1347 : decode code 1347 = .ok (.aload_n 2, 1) := by decide +kernel
theorem dlaw_1348 : decode code 1348 = .ok (.aload_n 0, 1) := by decide +kernel
theorem dlaw_1349 : decode code 1349 = .ok (.iload 4, 2) := by decide +kernel
theorem dlaw_1351 : decode code 1351 = .ok (.iconst 1, 1) := by decide +kernel
theorem dlaw_1352 : decode code 1352 = .ok (.iadd, 1) := by decide +kernel
theorem dlaw_1353 : decode code 1353 = .ok (.iaload, 1) := by decide +kernel
theorem dlaw_1354 : decode code 1354 = .ok (.invokevirtual 172, 3) := by decide +kernel
theorem dlaw_1357 : decode code 1357 = .ok (.istore 6, 2) := by decide +kernel
theorem dlaw_1359 : decode code 1359 = .ok (.aload_n 2, 1) := by decide +kernel
theorem dlaw_1360 : decode code 1360 = .ok (.invokevirtual 105, 3) := by decide +kernel
theorem dlaw_1363 : decode code 1363 = .ok (.iload 5, 2) := by decide +kernel
theorem dlaw_1365 : decode code 1365 = .ok (.if_icmp .eq 5, 3) := by decide +kernel
theorem dlaw_1368 : decode code 1368 = .ok (.iconst 0, 1) := by decide +kernel
theorem dlaw_1369 : decode code 1369 = .ok (.ireturn, 1) := by decide +kernel
theorem dlaw_1370 : decode code 1370 = .ok (.iload 5, 2) := by decide +kernel
theorem dlaw_1372 : decode code 1372 = .ok (.ifCond .ne 15, 3) := by decide +kernel
theorem dlaw_1375 : decode code 1375 = .ok (.aload_n 3, 1) := by decide +kernel
theorem dlaw_1376 : decode code 1376 = .ok (.iconst 0, 1) := by decide +kernel
theorem dlaw_1377 : decode code 1377 = .ok (.laload, 1) := by decide +kernel
theorem dlaw_1378 : decode code 1378 = .ok (.iload 6, 2) := by decide +kernel
theorem dlaw_1380 : decode code 1380 = .ok (.i2l, 1) := by decide +kernel
theorem dlaw_1381 : decode code 1381 = .ok (.lcmp, 1) := by decide +kernel
theorem dlaw_1382 : decode code 1382 = .ok (.ifCond .eq 5, 3) := by decide +kernel
theorem dlaw_1385 : decode code 1385 = .ok (.iconst 0, 1) := by decide +kernel
theorem dlaw_1386 : decode code 1386 = .ok (.ireturn, 1) := by decide +kernel
theorem dlaw_1387 : decode code 1387 = .ok (.goto 66, 3) := by decide +kernel
theorem dlaw_1390 : decode code 1390 = .ok (.aload_n 1, 1) := by decide +kernel
theorem dlaw_1391 : decode code 1391 = .ok (.aload_n 0, 1) := by decide +kernel
theorem dlaw_1392 : decode code 1392 = .ok (.iload 4, 2) := by decide +kernel
theorem dlaw_1394 : decode code 1394 = .ok (.iconst 1, 1) := by decide +kernel
theorem dlaw_1395 : decode code 1395 = .ok (.iadd, 1) := by decide +kernel
theorem dlaw_1396 : decode code 1396 = .ok (.iaload, 1) := by decide +kernel
theorem dlaw_1397 : decode code 1397 = .ok (.aload_n 3, 1) := by decide +kernel
theorem dlaw_1398 : decode code 1398 = .ok (.invokestatic 173, 3) := by decide +kernel
theorem dlaw_1401 : decode code 1401 = .ok (.istore 5, 2) := by decide +kernel
theorem dlaw_1403 : decode code 1403 = .ok (.aload_n 2, 1) := by decide +kernel
theorem dlaw_1404 : decode code 1404 = .ok (.aload_n 0, 1) := by decide +kernel
theorem dlaw_1405 : decode code 1405 = .ok (.iload 4, 2) := by decide +kernel
theorem dlaw_1407 : decode code 1407 = .ok (.iconst 1, 1) := by decide +kernel
theorem dlaw_1408 : decode code 1408 = .ok (.iadd, 1) := by decide +kernel
theorem dlaw_1409 : decode code 1409 = .ok (.iaload, 1) := by decide +kernel
theorem dlaw_1410 : decode code 1410 = .ok (.invokevirtual 175, 3) := by decide +kernel
theorem dlaw_1413 : decode code 1413 = .ok (.istore 6, 2) := by decide +kernel
theorem dlaw_1415 : decode code 1415 = .ok (.aload_n 2, 1) := by decide +kernel
theorem dlaw_1416 : decode code 1416 = .ok (.invokevirtual 105, 3) := by decide +kernel
theorem dlaw_1419 : decode code 1419 = .ok (.iload 5, 2) := by decide +kernel
theorem dlaw_1421 : decode code 1421 = .ok (.if_icmp .eq 5, 3) := by decide +kernel
theorem dlaw_1424 : decode code 1424 = .ok (.iconst 0, 1) := by decide +kernel
theorem dlaw_1425 : decode code 1425 = .ok (.ireturn, 1) := by decide +kernel
theorem dlaw_1426 : decode code 1426 = .ok (.iload 5, 2) := by decide +kernel
theorem dlaw_1428 : decode code 1428 = .ok (.ifCond .ne 22, 3) := by decide +kernel
theorem dlaw_1431 : decode code 1431 = .ok (.aload_n 3, 1) := by decide +kernel
theorem dlaw_1432 : decode code 1432 = .ok (.iconst 0, 1) := by decide +kernel
theorem dlaw_1433 : decode code 1433 = .ok (.laload, 1) := by decide +kernel
theorem dlaw_1434 : decode code 1434 = .ok (.iload 6, 2) := by decide +kernel
theorem dlaw_1436 : decode code 1436 = .ok (.ifCond .eq 7, 3) := by decide +kernel
theorem dlaw_1439 : decode code 1439 = .ok (.lconst 1, 1) := by decide +kernel
theorem dlaw_1440 : decode code 1440 = .ok (.goto 4, 3) := by decide +kernel
theorem dlaw_1443 : decode code 1443 = .ok (.lconst 0, 1) := by decide +kernel
theorem dlaw_1444 : decode code 1444 = .ok (.lcmp, 1) := by decide +kernel
theorem dlaw_1445 : decode code 1445 = .ok (.ifCond .eq 5, 3) := by decide +kernel
theorem dlaw_1448 : decode code 1448 = .ok (.iconst 0, 1) := by decide +kernel
theorem dlaw_1449 : decode code 1449 = .ok (.ireturn, 1) := by decide +kernel
theorem dlaw_1450 : decode code 1450 = .ok (.goto 3, 3) := by decide +kernel
theorem dlaw_1453 : decode code 1453 = .ok (.iinc 4 6, 3) := by decide +kernel
theorem dlaw_1456 : decode code 1456 = .ok (.goto (-1423), 3) := by decide +kernel
theorem dlaw_1459 : decode code 1459 = .ok (.iconst 1, 1) := by decide +kernel
theorem dlaw_1460 : decode code 1460 = .ok (.ireturn, 1) := by decide +kernel

