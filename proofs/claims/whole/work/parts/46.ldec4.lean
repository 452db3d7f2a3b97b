theorem tc_dL_905 : decode code 905 = .ok (.iaload, 1) := by decide +kernel
theorem tc_dL_906 : decode code 906 = .ok (.aload_n 0, 1) := by decide +kernel
theorem tc_dL_907 : decode code 907 = .ok (.iload_n 3, 1) := by decide +kernel
theorem tc_dL_908 : decode code 908 = .ok (.iconst 2, 1) := by decide +kernel
theorem tc_dL_909 : decode code 909 = .ok (.iadd, 1) := by decide +kernel
theorem tc_dL_910 : decode code 910 = .ok (.iaload, 1) := by decide +kernel
theorem tc_dL_911 : decode code 911 = .ok (.aload_n 0, 1) := by decide +kernel
theorem tc_dL_912 : decode code 912 = .ok (.iload_n 3, 1) := by decide +kernel
theorem tc_dL_913 : decode code 913 = .ok (.iconst 3, 1) := by decide +kernel
theorem tc_dL_914 : decode code 914 = .ok (.iadd, 1) := by decide +kernel
theorem tc_dL_915 : decode code 915 = .ok (.iaload, 1) := by decide +kernel
theorem tc_dL_916 : decode code 916 = .ok (.aload_n 0, 1) := by decide +kernel
theorem tc_dL_917 : decode code 917 = .ok (.iload_n 3, 1) := by decide +kernel
theorem tc_dL_918 : decode code 918 = .ok (.iconst 4, 1) := by decide +kernel
theorem tc_dL_919 : decode code 919 = .ok (.iadd, 1) := by decide +kernel
theorem tc_dL_920 : decode code 920 = .ok (.iaload, 1) := by decide +kernel
theorem tc_dL_921 : decode code 921 = .ok (.aload_n 0, 1) := by decide +kernel
theorem tc_dL_922 : decode code 922 = .ok (.iload_n 3, 1) := by decide +kernel
theorem tc_dL_923 : decode code 923 = .ok (.iconst 5, 1) := by decide +kernel
theorem tc_dL_924 : decode code 924 = .ok (.iadd, 1) := by decide +kernel
theorem tc_dL_925 : decode code 925 = .ok (.iaload, 1) := by decide +kernel
theorem tc_dL_926 : decode code 926 = .ok (.invokevirtual 122, 3) := by decide +kernel
theorem tc_dL_929 : decode code 929 = .ok (.if_icmp .eq 430, 3) := by decide +kernel
theorem tc_dL_932 : decode code 932 = .ok (.iconst 0, 1) := by decide +kernel
theorem tc_dL_933 : decode code 933 = .ok (.ireturn, 1) := by decide +kernel
theorem tc_dL_934 : decode code 934 = .ok (.aload_n 1, 1) := by decide +kernel
theorem tc_dL_935 : decode code 935 = .ok (.aload_n 0, 1) := by decide +kernel
theorem tc_dL_936 : decode code 936 = .ok (.iload_n 3, 1) := by decide +kernel
theorem tc_dL_937 : decode code 937 = .ok (.iconst 1, 1) := by decide +kernel
theorem tc_dL_938 : decode code 938 = .ok (.iadd, 1) := by decide +kernel
theorem tc_dL_939 : decode code 939 = .ok (.iaload, 1) := by decide +kernel
theorem tc_dL_940 : decode code 940 = .ok (.aload_n 0, 1) := by decide +kernel
theorem tc_dL_941 : decode code 941 = .ok (.iload_n 3, 1) := by decide +kernel
theorem tc_dL_942 : decode code 942 = .ok (.iconst 2, 1) := by decide +kernel
theorem tc_dL_943 : decode code 943 = .ok (.iadd, 1) := by decide +kernel
theorem tc_dL_944 : decode code 944 = .ok (.iaload, 1) := by decide +kernel
theorem tc_dL_945 : decode code 945 = .ok (.aload_n 0, 1) := by decide +kernel
theorem tc_dL_946 : decode code 946 = .ok (.iload_n 3, 1) := by decide +kernel
theorem tc_dL_947 : decode code 947 = .ok (.iconst 3, 1) := by decide +kernel
theorem tc_dL_948 : decode code 948 = .ok (.iadd, 1) := by decide +kernel
theorem tc_dL_949 : decode code 949 = .ok (.iaload, 1) := by decide +kernel
theorem tc_dL_950 : decode code 950 = .ok (.invokevirtual 123, 3) := by decide +kernel
theorem tc_dL_953 : decode code 953 = .ok (.aload_n 2, 1) := by decide +kernel
theorem tc_dL_954 : decode code 954 = .ok (.aload_n 0, 1) := by decide +kernel
theorem tc_dL_955 : decode code 955 = .ok (.iload_n 3, 1) := by decide +kernel
theorem tc_dL_956 : decode code 956 = .ok (.iconst 1, 1) := by decide +kernel
theorem tc_dL_957 : decode code 957 = .ok (.iadd, 1) := by decide +kernel
theorem tc_dL_958 : decode code 958 = .ok (.iaload, 1) := by decide +kernel
theorem tc_dL_959 : decode code 959 = .ok (.aload_n 0, 1) := by decide +kernel
theorem tc_dL_960 : decode code 960 = .ok (.iload_n 3, 1) := by decide +kernel
theorem tc_dL_961 : decode code 961 = .ok (.iconst 2, 1) := by decide +kernel
theorem tc_dL_962 : decode code 962 = .ok (.iadd, 1) := by decide +kernel
theorem tc_dL_963 : decode code 963 = .ok (.iaload, 1) := by decide +kernel
theorem tc_dL_964 : decode code 964 = .ok (.aload_n 0, 1) := by decide +kernel
theorem tc_dL_965 : decode code 965 = .ok (.iload_n 3, 1) := by decide +kernel
theorem tc_dL_966 : decode code 966 = .ok (.iconst 3, 1) := by decide +kernel
theorem tc_dL_967 : decode code 967 = .ok (.iadd, 1) := by decide +kernel
theorem tc_dL_968 : decode code 968 = .ok (.iaload, 1) := by decide +kernel
theorem tc_dL_969 : decode code 969 = .ok (.invokevirtual 126, 3) := by decide +kernel
theorem tc_dL_972 : decode code 972 = .ok (.if_icmp .eq 387, 3) := by decide +kernel
theorem tc_dL_975 : decode code 975 = .ok (.iconst 0, 1) := by decide +kernel
theorem tc_dL_976 : decode code 976 = .ok (.ireturn, 1) := by decide +kernel
theorem tc_dL_977 : decode code 977 = .ok (.aload_n 1, 1) := by decide +kernel
theorem tc_dL_978 : decode code 978 = .ok (.aload_n 0, 1) := by decide +kernel
theorem tc_dL_979 : decode code 979 = .ok (.iload_n 3, 1) := by decide +kernel
theorem tc_dL_980 : decode code 980 = .ok (.iconst 1, 1) := by decide +kernel
theorem tc_dL_981 : decode code 981 = .ok (.iadd, 1) := by decide +kernel
theorem tc_dL_982 : decode code 982 = .ok (.iaload, 1) := by decide +kernel
theorem tc_dL_983 : decode code 983 = .ok (.aload_n 0, 1) := by decide +kernel
theorem tc_dL_984 : decode code 984 = .ok (.iload_n 3, 1) := by decide +kernel
theorem tc_dL_985 : decode code 985 = .ok (.iconst 2, 1) := by decide +kernel
theorem tc_dL_986 : decode code 986 = .ok (.iadd, 1) := by decide +kernel
theorem tc_dL_987 : decode code 987 = .ok (.iaload, 1) := by decide +kernel
theorem tc_dL_988 : decode code 988 = .ok (.aload_n 0, 1) := by decide +kernel
theorem tc_dL_989 : decode code 989 = .ok (.iload_n 3, 1) := by decide +kernel
theorem tc_dL_990 : decode code 990 = .ok (.iconst 3, 1) := by decide +kernel
theorem tc_dL_991 : decode code 991 = .ok (.iadd, 1) := by decide +kernel
theorem tc_dL_992 : decode code 992 = .ok (.iaload, 1) := by decide +kernel
theorem tc_dL_993 : decode code 993 = .ok (.invokevirtual 127, 3) := by decide +kernel
theorem tc_dL_996 : decode code 996 = .ok (.aload_n 2, 1) := by decide +kernel
theorem tc_dL_997 : decode code 997 = .ok (.aload_n 0, 1) := by decide +kernel
theorem tc_dL_998 : decode code 998 = .ok (.iload_n 3, 1) := by decide +kernel
theorem tc_dL_999 : decode code 999 = .ok (.iconst 1, 1) := by decide +kernel
theorem tc_dL_1000 : decode code 1000 = .ok (.iadd, 1) := by decide +kernel
theorem tc_dL_1001 : decode code 1001 = .ok (.iaload, 1) := by decide +kernel
theorem tc_dL_1002 : decode code 1002 = .ok (.aload_n 0, 1) := by decide +kernel
theorem tc_dL_1003 : decode code 1003 = .ok (.iload_n 3, 1) := by decide +kernel
theorem tc_dL_1004 : decode code 1004 = .ok (.iconst 2, 1) := by decide +kernel
theorem tc_dL_1005 : decode code 1005 = .ok (.iadd, 1) := by decide +kernel
theorem tc_dL_1006 : decode code 1006 = .ok (.iaload, 1) := by decide +kernel
theorem tc_dL_1007 : decode code 1007 = .ok (.aload_n 0, 1) := by decide +kernel
theorem tc_dL_1008 : decode code 1008 = .ok (.iload_n 3, 1) := by decide +kernel
theorem tc_dL_1009 : decode code 1009 = .ok (.iconst 3, 1) := by decide +kernel
theorem tc_dL_1010 : decode code 1010 = .ok (.iadd, 1) := by decide +kernel
theorem tc_dL_1011 : decode code 1011 = .ok (.iaload, 1) := by decide +kernel
theorem tc_dL_1012 : decode code 1012 = .ok (.invokevirtual 130, 3) := by decide +kernel
theorem tc_dL_1015 : decode code 1015 = .ok (.if_icmp .eq 344, 3) := by decide +kernel
theorem tc_dL_1018 : decode code 1018 = .ok (.iconst 0, 1) := by decide +kernel
theorem tc_dL_1019 : decode code 1019 = .ok (.ireturn, 1) := by decide +kernel
theorem tc_dL_1020 : decode code 1020 = .ok (.aload_n 1, 1) := by decide +kernel
theorem tc_dL_1021 : decode code 1021 = .ok (.aload_n 0, 1) := by decide +kernel
theorem tc_dL_1022 : decode code 1022 = .ok (.iload_n 3, 1) := by decide +kernel
theorem tc_dL_1023 : decode code 1023 = .ok (.iconst 1, 1) := by decide +kernel
theorem tc_dL_1024 : decode code 1024 = .ok (.iadd, 1) := by decide +kernel
theorem tc_dL_1025 : decode code 1025 = .ok (.iaload, 1) := by decide +kernel
theorem tc_dL_1026 : decode code 1026 = .ok (.aload_n 0, 1) := by decide +kernel
theorem tc_dL_1027 : decode code 1027 = .ok (.iload_n 3, 1) := by decide +kernel
theorem tc_dL_1028 : decode code 1028 = .ok (.iconst 2, 1) := by decide +kernel
theorem tc_dL_1029 : decode code 1029 = .ok (.iadd, 1) := by decide +kernel
theorem tc_dL_1030 : decode code 1030 = .ok (.iaload, 1) := by decide +kernel
theorem tc_dL_1031 : decode code 1031 = .ok (.aload_n 0, 1) := by decide +kernel
theorem tc_dL_1032 : decode code 1032 = .ok (.iload_n 3, 1) := by decide +kernel
theorem tc_dL_1033 : decode code 1033 = .ok (.iconst 3, 1) := by decide +kernel
theorem tc_dL_1034 : decode code 1034 = .ok (.iadd, 1) := by decide +kernel
theorem tc_dL_1035 : decode code 1035 = .ok (.iaload, 1) := by decide +kernel
theorem tc_dL_1036 : decode code 1036 = .ok (.aload_n 0, 1) := by decide +kernel
theorem tc_dL_1037 : decode code 1037 = .ok (.iload_n 3, 1) := by decide +kernel
theorem tc_dL_1038 : decode code 1038 = .ok (.iconst 4, 1) := by decide +kernel
theorem tc_dL_1039 : decode code 1039 = .ok (.iadd, 1) := by decide +kernel
theorem tc_dL_1040 : decode code 1040 = .ok (.iaload, 1) := by decide +kernel
theorem tc_dL_1041 : decode code 1041 = .ok (.aload_n 0, 1) := by decide +kernel
theorem tc_dL_1042 : decode code 1042 = .ok (.iload_n 3, 1) := by decide +kernel
theorem tc_dL_1043 : decode code 1043 = .ok (.iconst 5, 1) := by decide +kernel
theorem tc_dL_1044 : decode code 1044 = .ok (.iadd, 1) := by decide +kernel
theorem tc_dL_1045 : decode code 1045 = .ok (.iaload, 1) := by decide +kernel
theorem tc_dL_1046 : decode code 1046 = .ok (.aload_n 0, 1) := by decide +kernel
theorem tc_dL_1047 : decode code 1047 = .ok (.iload_n 3, 1) := by decide +kernel
theorem tc_dL_1048 : decode code 1048 = .ok (.bipush 6, 2) := by decide +kernel
theorem tc_dL_1050 : decode code 1050 = .ok (.iadd, 1) := by decide +kernel
theorem tc_dL_1051 : decode code 1051 = .ok (.iaload, 1) := by decide +kernel
theorem tc_dL_1052 : decode code 1052 = .ok (.invokevirtual 131, 3) := by decide +kernel
theorem tc_dL_1055 : decode code 1055 = .ok (.aload_n 2, 1) := by decide +kernel
theorem tc_dL_1056 : decode code 1056 = .ok (.aload_n 0, 1) := by decide +kernel
theorem tc_dL_1057 : decode code 1057 = .ok (.iload_n 3, 1) := by decide +kernel
theorem tc_dL_1058 : decode code 1058 = .ok (.iconst 1, 1) := by decide +kernel
theorem tc_dL_1059 : decode code 1059 = .ok (.iadd, 1) := by decide +kernel
theorem tc_dL_1060 : decode code 1060 = .ok (.iaload, 1) := by decide +kernel
theorem tc_dL_1061 : decode code 1061 = .ok (.aload_n 0, 1) := by decide +kernel
theorem tc_dL_1062 : decode code 1062 = .ok (.iload_n 3, 1) := by decide +kernel
theorem tc_dL_1063 : decode code 1063 = .ok (.iconst 2, 1) := by decide +kernel
theorem tc_dL_1064 : decode code 1064 = .ok (.iadd, 1) := by decide +kernel
theorem tc_dL_1065 : decode code 1065 = .ok (.iaload, 1) := by decide +kernel
theorem tc_dL_1066 : decode code 1066 = .ok (.aload_n 0, 1) := by decide +kernel
theorem tc_dL_1067 : decode code 1067 = .ok (.iload_n 3, 1) := by decide +kernel
theorem tc_dL_1068 : decode code 1068 = .ok (.iconst 3, 1) := by decide +kernel
theorem tc_dL_1069 : decode code 1069 = .ok (.iadd, 1) := by decide +kernel
theorem tc_dL_1070 : decode code 1070 = .ok (.iaload, 1) := by decide +kernel
theorem tc_dL_1071 : decode code 1071 = .ok (.aload_n 0, 1) := by decide +kernel
theorem tc_dL_1072 : decode code 1072 = .ok (.iload_n 3, 1) := by decide +kernel
theorem tc_dL_1073 : decode code 1073 = .ok (.iconst 4, 1) := by decide +kernel
theorem tc_dL_1074 : decode code 1074 = .ok (.iadd, 1) := by decide +kernel
theorem tc_dL_1075 : decode code 1075 = .ok (.iaload, 1) := by decide +kernel
theorem tc_dL_1076 : decode code 1076 = .ok (.aload_n 0, 1) := by decide +kernel
theorem tc_dL_1077 : decode code 1077 = .ok (.iload_n 3, 1) := by decide +kernel
theorem tc_dL_1078 : decode code 1078 = .ok (.iconst 5, 1) := by decide +kernel
theorem tc_dL_1079 : decode code 1079 = .ok (.iadd, 1) := by decide +kernel
theorem tc_dL_1080 : decode code 1080 = .ok (.iaload, 1) := by decide +kernel
theorem tc_dL_1081 : decode code 1081 = .ok (.aload_n 0, 1) := by decide +kernel
theorem tc_dL_1082 : decode code 1082 = .ok (.iload_n 3, 1) := by decide +kernel
theorem tc_dL_1083 : decode code 1083 = .ok (.bipush 6, 2) := by decide +kernel
theorem tc_dL_1085 : decode code 1085 = .ok (.iadd, 1) := by decide +kernel
theorem tc_dL_1086 : decode code 1086 = .ok (.iaload, 1) := by decide +kernel
theorem tc_dL_1087 : decode code 1087 = .ok (.invokevirtual 135, 3) := by decide +kernel
theorem tc_dL_1090 : decode code 1090 = .ok (.if_icmp .eq 269, 3) := by decide +kernel
theorem tc_dL_1093 : decode code 1093 = .ok (.iconst 0, 1) := by decide +kernel
theorem tc_dL_1094 : decode code 1094 = .ok (.ireturn, 1) := by decide +kernel
theorem tc_dL_1095 : decode code 1095 = .ok (.aload_n 1, 1) := by decide +kernel
theorem tc_dL_1096 : decode code 1096 = .ok (.invokevirtual 136, 3) := by decide +kernel
theorem tc_dL_1099 : decode code 1099 = .ok (.aload_n 2, 1) := by decide +kernel
theorem tc_dL_1100 : decode code 1100 = .ok (.invokevirtual 139, 3) := by decide +kernel
theorem tc_dL_1103 : decode code 1103 = .ok (.if_icmp .eq 256, 3) := by decide +kernel
theorem tc_dL_1106 : decode code 1106 = .ok (.iconst 0, 1) := by decide +kernel
theorem tc_dL_1107 : decode code 1107 = .ok (.ireturn, 1) := by decide +kernel
theorem tc_dL_1108 : decode code 1108 = .ok (.aload_n 1, 1) := by decide +kernel
theorem tc_dL_1109 : decode code 1109 = .ok (.invokevirtual 140, 3) := by decide +kernel
theorem tc_dL_1112 : decode code 1112 = .ok (.aload_n 2, 1) := by decide +kernel
theorem tc_dL_1113 : decode code 1113 = .ok (.invokevirtual 143, 3) := by decide +kernel
theorem tc_dL_1116 : decode code 1116 = .ok (.if_icmp .eq 243, 3) := by decide +kernel
theorem tc_dL_1119 : decode code 1119 = .ok (.iconst 0, 1) := by decide +kernel
theorem tc_dL_1120 : decode code 1120 = .ok (.ireturn, 1) := by decide +kernel
theorem tc_dL_1121 : decode code 1121 = .ok (.aload_n 1, 1) := by decide +kernel
theorem tc_dL_1122 : decode code 1122 = .ok (.invokevirtual 144, 3) := by decide +kernel
theorem tc_dL_1125 : decode code 1125 = .ok (.aload_n 2, 1) := by decide +kernel
theorem tc_dL_1126 : decode code 1126 = .ok (.invokevirtual 147, 3) := by decide +kernel
theorem tc_dL_1129 : decode code 1129 = .ok (.if_icmp .eq 230, 3) := by decide +kernel
theorem tc_dL_1132 : decode code 1132 = .ok (.iconst 0, 1) := by decide +kernel
theorem tc_dL_1133 : decode code 1133 = .ok (.ireturn, 1) := by decide +kernel
theorem tc_dL_1134 : decode code 1134 = .ok (.aload_n 1, 1) := by decide +kernel
theorem tc_dL_1135 : decode code 1135 = .ok (.aload_n 0, 1) := by decide +kernel
theorem tc_dL_1136 : decode code 1136 = .ok (.iload_n 3, 1) := by decide +kernel
theorem tc_dL_1137 : decode code 1137 = .ok (.iconst 1, 1) := by decide +kernel
theorem tc_dL_1138 : decode code 1138 = .ok (.iadd, 1) := by decide +kernel
theorem tc_dL_1139 : decode code 1139 = .ok (.iaload, 1) := by decide +kernel
