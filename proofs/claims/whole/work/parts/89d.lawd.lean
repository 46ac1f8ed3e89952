/-! the law, decoded, piece 4 -/
theorem d_law_935 : decode code 935 = .ok (.iconst 2, 1) := by decide +kernel
theorem d_law_936 : decode code 936 = .ok (.iadd, 1) := by decide +kernel
theorem d_law_937 : decode code 937 = .ok (.iaload, 1) := by decide +kernel
theorem d_law_938 : decode code 938 = .ok (.invokevirtual 105, 3) := by decide +kernel
theorem d_law_941 : decode code 941 = .ok (.if_icmp .eq 495, 3) := by decide +kernel
theorem d_law_944 : decode code 944 = .ok (.iconst 0, 1) := by decide +kernel
theorem d_law_945 : decode code 945 = .ok (.ireturn, 1) := by decide +kernel
theorem d_law_946 : decode code 946 = .ok (.aload_n 1, 1) := by decide +kernel
theorem d_law_947 : decode code 947 = .ok (.aload_n 0, 1) := by decide +kernel
theorem d_law_948 : decode code 948 = .ok (.iload_n 3, 1) := by decide +kernel
theorem d_law_949 : decode code 949 = .ok (.iconst 1, 1) := by decide +kernel
theorem d_law_950 : decode code 950 = .ok (.iadd, 1) := by decide +kernel
theorem d_law_951 : decode code 951 = .ok (.iaload, 1) := by decide +kernel
theorem d_law_952 : decode code 952 = .ok (.invokevirtual 106, 3) := by decide +kernel
theorem d_law_955 : decode code 955 = .ok (.aload_n 2, 1) := by decide +kernel
theorem d_law_956 : decode code 956 = .ok (.aload_n 0, 1) := by decide +kernel
theorem d_law_957 : decode code 957 = .ok (.iload_n 3, 1) := by decide +kernel
theorem d_law_958 : decode code 958 = .ok (.iconst 1, 1) := by decide +kernel
theorem d_law_959 : decode code 959 = .ok (.iadd, 1) := by decide +kernel
theorem d_law_960 : decode code 960 = .ok (.iaload, 1) := by decide +kernel
theorem d_law_961 : decode code 961 = .ok (.invokevirtual 109, 3) := by decide +kernel
theorem d_law_964 : decode code 964 = .ok (.if_icmp .eq 472, 3) := by decide +kernel
theorem d_law_967 : decode code 967 = .ok (.iconst 0, 1) := by decide +kernel
theorem d_law_968 : decode code 968 = .ok (.ireturn, 1) := by decide +kernel
theorem d_law_969 : decode code 969 = .ok (.aload_n 1, 1) := by decide +kernel
theorem d_law_970 : decode code 970 = .ok (.aload_n 0, 1) := by decide +kernel
theorem d_law_971 : decode code 971 = .ok (.iload_n 3, 1) := by decide +kernel
theorem d_law_972 : decode code 972 = .ok (.iconst 1, 1) := by decide +kernel
theorem d_law_973 : decode code 973 = .ok (.iadd, 1) := by decide +kernel
theorem d_law_974 : decode code 974 = .ok (.iaload, 1) := by decide +kernel
theorem d_law_975 : decode code 975 = .ok (.aload_n 0, 1) := by decide +kernel
theorem d_law_976 : decode code 976 = .ok (.iload_n 3, 1) := by decide +kernel
theorem d_law_977 : decode code 977 = .ok (.iconst 2, 1) := by decide +kernel
theorem d_law_978 : decode code 978 = .ok (.iadd, 1) := by decide +kernel
theorem d_law_979 : decode code 979 = .ok (.iaload, 1) := by decide +kernel
theorem d_law_980 : decode code 980 = .ok (.invokevirtual 110, 3) := by decide +kernel
theorem d_law_983 : decode code 983 = .ok (.aload_n 2, 1) := by decide +kernel
theorem d_law_984 : decode code 984 = .ok (.aload_n 0, 1) := by decide +kernel
theorem d_law_985 : decode code 985 = .ok (.iload_n 3, 1) := by decide +kernel
theorem d_law_986 : decode code 986 = .ok (.iconst 1, 1) := by decide +kernel
theorem d_law_987 : decode code 987 = .ok (.iadd, 1) := by decide +kernel
theorem d_law_988 : decode code 988 = .ok (.iaload, 1) := by decide +kernel
theorem d_law_989 : decode code 989 = .ok (.aload_n 0, 1) := by decide +kernel
theorem d_law_990 : decode code 990 = .ok (.iload_n 3, 1) := by decide +kernel
theorem d_law_991 : decode code 991 = .ok (.iconst 2, 1) := by decide +kernel
theorem d_law_992 : decode code 992 = .ok (.iadd, 1) := by decide +kernel
theorem d_law_993 : decode code 993 = .ok (.iaload, 1) := by decide +kernel
theorem d_law_994 : decode code 994 = .ok (.invokevirtual 113, 3) := by decide +kernel
theorem d_law_997 : decode code 997 = .ok (.if_icmp .eq 439, 3) := by decide +kernel
theorem d_law_1000 : decode code 1000 = .ok (.iconst 0, 1) := by decide +kernel
theorem d_law_1001 : decode code 1001 = .ok (.ireturn, 1) := by decide +kernel
theorem d_law_1002 : decode code 1002 = .ok (.aload_n 1, 1) := by decide +kernel
theorem d_law_1003 : decode code 1003 = .ok (.aload_n 0, 1) := by decide +kernel
theorem d_law_1004 : decode code 1004 = .ok (.iload_n 3, 1) := by decide +kernel
theorem d_law_1005 : decode code 1005 = .ok (.iconst 1, 1) := by decide +kernel
theorem d_law_1006 : decode code 1006 = .ok (.iadd, 1) := by decide +kernel
theorem d_law_1007 : decode code 1007 = .ok (.iaload, 1) := by decide +kernel
theorem d_law_1008 : decode code 1008 = .ok (.aload_n 0, 1) := by decide +kernel
theorem d_law_1009 : decode code 1009 = .ok (.iload_n 3, 1) := by decide +kernel
theorem d_law_1010 : decode code 1010 = .ok (.iconst 2, 1) := by decide +kernel
theorem d_law_1011 : decode code 1011 = .ok (.iadd, 1) := by decide +kernel
theorem d_law_1012 : decode code 1012 = .ok (.iaload, 1) := by decide +kernel
theorem d_law_1013 : decode code 1013 = .ok (.aload_n 0, 1) := by decide +kernel
theorem d_law_1014 : decode code 1014 = .ok (.iload_n 3, 1) := by decide +kernel
theorem d_law_1015 : decode code 1015 = .ok (.iconst 3, 1) := by decide +kernel
theorem d_law_1016 : decode code 1016 = .ok (.iadd, 1) := by decide +kernel
theorem d_law_1017 : decode code 1017 = .ok (.iaload, 1) := by decide +kernel
theorem d_law_1018 : decode code 1018 = .ok (.invokevirtual 114, 3) := by decide +kernel
theorem d_law_1021 : decode code 1021 = .ok (.aload_n 2, 1) := by decide +kernel
theorem d_law_1022 : decode code 1022 = .ok (.aload_n 0, 1) := by decide +kernel
theorem d_law_1023 : decode code 1023 = .ok (.iload_n 3, 1) := by decide +kernel
theorem d_law_1024 : decode code 1024 = .ok (.iconst 1, 1) := by decide +kernel
theorem d_law_1025 : decode code 1025 = .ok (.iadd, 1) := by decide +kernel
theorem d_law_1026 : decode code 1026 = .ok (.iaload, 1) := by decide +kernel
theorem d_law_1027 : decode code 1027 = .ok (.aload_n 0, 1) := by decide +kernel
theorem d_law_1028 : decode code 1028 = .ok (.iload_n 3, 1) := by decide +kernel
theorem d_law_1029 : decode code 1029 = .ok (.iconst 2, 1) := by decide +kernel
theorem d_law_1030 : decode code 1030 = .ok (.iadd, 1) := by decide +kernel
theorem d_law_1031 : decode code 1031 = .ok (.iaload, 1) := by decide +kernel
theorem d_law_1032 : decode code 1032 = .ok (.aload_n 0, 1) := by decide +kernel
theorem d_law_1033 : decode code 1033 = .ok (.iload_n 3, 1) := by decide +kernel
theorem d_law_1034 : decode code 1034 = .ok (.iconst 3, 1) := by decide +kernel
theorem d_law_1035 : decode code 1035 = .ok (.iadd, 1) := by decide +kernel
theorem d_law_1036 : decode code 1036 = .ok (.iaload, 1) := by decide +kernel
theorem d_law_1037 : decode code 1037 = .ok (.invokevirtual 117, 3) := by decide +kernel
theorem d_law_1040 : decode code 1040 = .ok (.if_icmp .eq 396, 3) := by decide +kernel
theorem d_law_1043 : decode code 1043 = .ok (.iconst 0, 1) := by decide +kernel
theorem d_law_1044 : decode code 1044 = .ok (.ireturn, 1) := by decide +kernel
theorem d_law_1045 : decode code 1045 = .ok (.aload_n 1, 1) := by decide +kernel
theorem d_law_1046 : decode code 1046 = .ok (.aload_n 0, 1) := by decide +kernel
theorem d_law_1047 : decode code 1047 = .ok (.iload_n 3, 1) := by decide +kernel
theorem d_law_1048 : decode code 1048 = .ok (.iconst 1, 1) := by decide +kernel
theorem d_law_1049 : decode code 1049 = .ok (.iadd, 1) := by decide +kernel
theorem d_law_1050 : decode code 1050 = .ok (.iaload, 1) := by decide +kernel
theorem d_law_1051 : decode code 1051 = .ok (.aload_n 0, 1) := by decide +kernel
theorem d_law_1052 : decode code 1052 = .ok (.iload_n 3, 1) := by decide +kernel
theorem d_law_1053 : decode code 1053 = .ok (.iconst 2, 1) := by decide +kernel
theorem d_law_1054 : decode code 1054 = .ok (.iadd, 1) := by decide +kernel
theorem d_law_1055 : decode code 1055 = .ok (.iaload, 1) := by decide +kernel
theorem d_law_1056 : decode code 1056 = .ok (.invokevirtual 118, 3) := by decide +kernel
theorem d_law_1059 : decode code 1059 = .ok (.aload_n 2, 1) := by decide +kernel
theorem d_law_1060 : decode code 1060 = .ok (.aload_n 0, 1) := by decide +kernel
theorem d_law_1061 : decode code 1061 = .ok (.iload_n 3, 1) := by decide +kernel
theorem d_law_1062 : decode code 1062 = .ok (.iconst 1, 1) := by decide +kernel
theorem d_law_1063 : decode code 1063 = .ok (.iadd, 1) := by decide +kernel
theorem d_law_1064 : decode code 1064 = .ok (.iaload, 1) := by decide +kernel
theorem d_law_1065 : decode code 1065 = .ok (.aload_n 0, 1) := by decide +kernel
theorem d_law_1066 : decode code 1066 = .ok (.iload_n 3, 1) := by decide +kernel
theorem d_law_1067 : decode code 1067 = .ok (.iconst 2, 1) := by decide +kernel
theorem d_law_1068 : decode code 1068 = .ok (.iadd, 1) := by decide +kernel
theorem d_law_1069 : decode code 1069 = .ok (.iaload, 1) := by decide +kernel
theorem d_law_1070 : decode code 1070 = .ok (.invokevirtual 121, 3) := by decide +kernel
theorem d_law_1073 : decode code 1073 = .ok (.if_icmp .eq 363, 3) := by decide +kernel
theorem d_law_1076 : decode code 1076 = .ok (.iconst 0, 1) := by decide +kernel
theorem d_law_1077 : decode code 1077 = .ok (.ireturn, 1) := by decide +kernel
theorem d_law_1078 : decode code 1078 = .ok (.aload_n 1, 1) := by decide +kernel
theorem d_law_1079 : decode code 1079 = .ok (.aload_n 0, 1) := by decide +kernel
theorem d_law_1080 : decode code 1080 = .ok (.iload_n 3, 1) := by decide +kernel
theorem d_law_1081 : decode code 1081 = .ok (.iconst 1, 1) := by decide +kernel
theorem d_law_1082 : decode code 1082 = .ok (.iadd, 1) := by decide +kernel
theorem d_law_1083 : decode code 1083 = .ok (.iaload, 1) := by decide +kernel
theorem d_law_1084 : decode code 1084 = .ok (.aload_n 0, 1) := by decide +kernel
theorem d_law_1085 : decode code 1085 = .ok (.iload_n 3, 1) := by decide +kernel
theorem d_law_1086 : decode code 1086 = .ok (.iconst 2, 1) := by decide +kernel
theorem d_law_1087 : decode code 1087 = .ok (.iadd, 1) := by decide +kernel
theorem d_law_1088 : decode code 1088 = .ok (.iaload, 1) := by decide +kernel
theorem d_law_1089 : decode code 1089 = .ok (.aload_n 0, 1) := by decide +kernel
theorem d_law_1090 : decode code 1090 = .ok (.iload_n 3, 1) := by decide +kernel
theorem d_law_1091 : decode code 1091 = .ok (.iconst 3, 1) := by decide +kernel
theorem d_law_1092 : decode code 1092 = .ok (.iadd, 1) := by decide +kernel
theorem d_law_1093 : decode code 1093 = .ok (.iaload, 1) := by decide +kernel
theorem d_law_1094 : decode code 1094 = .ok (.invokevirtual 122, 3) := by decide +kernel
theorem d_law_1097 : decode code 1097 = .ok (.aload_n 2, 1) := by decide +kernel
theorem d_law_1098 : decode code 1098 = .ok (.aload_n 0, 1) := by decide +kernel
theorem d_law_1099 : decode code 1099 = .ok (.iload_n 3, 1) := by decide +kernel
theorem d_law_1100 : decode code 1100 = .ok (.iconst 1, 1) := by decide +kernel
theorem d_law_1101 : decode code 1101 = .ok (.iadd, 1) := by decide +kernel
theorem d_law_1102 : decode code 1102 = .ok (.iaload, 1) := by decide +kernel
theorem d_law_1103 : decode code 1103 = .ok (.aload_n 0, 1) := by decide +kernel
theorem d_law_1104 : decode code 1104 = .ok (.iload_n 3, 1) := by decide +kernel
theorem d_law_1105 : decode code 1105 = .ok (.iconst 2, 1) := by decide +kernel
theorem d_law_1106 : decode code 1106 = .ok (.iadd, 1) := by decide +kernel
theorem d_law_1107 : decode code 1107 = .ok (.iaload, 1) := by decide +kernel
theorem d_law_1108 : decode code 1108 = .ok (.aload_n 0, 1) := by decide +kernel
theorem d_law_1109 : decode code 1109 = .ok (.iload_n 3, 1) := by decide +kernel
theorem d_law_1110 : decode code 1110 = .ok (.iconst 3, 1) := by decide +kernel
theorem d_law_1111 : decode code 1111 = .ok (.iadd, 1) := by decide +kernel
theorem d_law_1112 : decode code 1112 = .ok (.iaload, 1) := by decide +kernel
theorem d_law_1113 : decode code 1113 = .ok (.invokevirtual 125, 3) := by decide +kernel
theorem d_law_1116 : decode code 1116 = .ok (.if_icmp .eq 320, 3) := by decide +kernel
theorem d_law_1119 : decode code 1119 = .ok (.iconst 0, 1) := by decide +kernel
theorem d_law_1120 : decode code 1120 = .ok (.ireturn, 1) := by decide +kernel
theorem d_law_1121 : decode code 1121 = .ok (.aload_n 1, 1) := by decide +kernel
theorem d_law_1122 : decode code 1122 = .ok (.aload_n 0, 1) := by decide +kernel
theorem d_law_1123 : decode code 1123 = .ok (.iload_n 3, 1) := by decide +kernel
theorem d_law_1124 : decode code 1124 = .ok (.iconst 1, 1) := by decide +kernel
theorem d_law_1125 : decode code 1125 = .ok (.iadd, 1) := by decide +kernel
theorem d_law_1126 : decode code 1126 = .ok (.iaload, 1) := by decide +kernel
theorem d_law_1127 : decode code 1127 = .ok (.aload_n 0, 1) := by decide +kernel
theorem d_law_1128 : decode code 1128 = .ok (.iload_n 3, 1) := by decide +kernel
theorem d_law_1129 : decode code 1129 = .ok (.iconst 2, 1) := by decide +kernel
theorem d_law_1130 : decode code 1130 = .ok (.iadd, 1) := by decide +kernel
theorem d_law_1131 : decode code 1131 = .ok (.iaload, 1) := by decide +kernel
theorem d_law_1132 : decode code 1132 = .ok (.aload_n 0, 1) := by decide +kernel
theorem d_law_1133 : decode code 1133 = .ok (.iload_n 3, 1) := by decide +kernel
theorem d_law_1134 : decode code 1134 = .ok (.iconst 3, 1) := by decide +kernel
theorem d_law_1135 : decode code 1135 = .ok (.iadd, 1) := by decide +kernel
theorem d_law_1136 : decode code 1136 = .ok (.iaload, 1) := by decide +kernel
theorem d_law_1137 : decode code 1137 = .ok (.aload_n 0, 1) := by decide +kernel
theorem d_law_1138 : decode code 1138 = .ok (.iload_n 3, 1) := by decide +kernel
theorem d_law_1139 : decode code 1139 = .ok (.iconst 4, 1) := by decide +kernel
theorem d_law_1140 : decode code 1140 = .ok (.iadd, 1) := by decide +kernel
theorem d_law_1141 : decode code 1141 = .ok (.iaload, 1) := by decide +kernel
theorem d_law_1142 : decode code 1142 = .ok (.invokevirtual 126, 3) := by decide +kernel
theorem d_law_1145 : decode code 1145 = .ok (.aload_n 2, 1) := by decide +kernel
theorem d_law_1146 : decode code 1146 = .ok (.aload_n 0, 1) := by decide +kernel
theorem d_law_1147 : decode code 1147 = .ok (.iload_n 3, 1) := by decide +kernel
theorem d_law_1148 : decode code 1148 = .ok (.iconst 1, 1) := by decide +kernel
theorem d_law_1149 : decode code 1149 = .ok (.iadd, 1) := by decide +kernel
theorem d_law_1150 : decode code 1150 = .ok (.iaload, 1) := by decide +kernel
theorem d_law_1151 : decode code 1151 = .ok (.aload_n 0, 1) := by decide +kernel
theorem d_law_1152 : decode code 1152 = .ok (.iload_n 3, 1) := by decide +kernel
theorem d_law_1153 : decode code 1153 = .ok (.iconst 2, 1) := by decide +kernel
theorem d_law_1154 : decode code 1154 = .ok (.iadd, 1) := by decide +kernel
theorem d_law_1155 : decode code 1155 = .ok (.iaload, 1) := by decide +kernel
theorem d_law_1156 : decode code 1156 = .ok (.aload_n 0, 1) := by decide +kernel
theorem d_law_1157 : decode code 1157 = .ok (.iload_n 3, 1) := by decide +kernel
theorem d_law_1158 : decode code 1158 = .ok (.iconst 3, 1) := by decide +kernel
theorem d_law_1159 : decode code 1159 = .ok (.iadd, 1) := by decide +kernel
theorem d_law_1160 : decode code 1160 = .ok (.iaload, 1) := by decide +kernel
theorem d_law_1161 : decode code 1161 = .ok (.aload_n 0, 1) := by decide +kernel
theorem d_law_1162 : decode code 1162 = .ok (.iload_n 3, 1) := by decide +kernel
theorem d_law_1163 : decode code 1163 = .ok (.iconst 4, 1) := by decide +kernel
theorem d_law_1164 : decode code 1164 = .ok (.iadd, 1) := by decide +kernel
theorem d_law_1165 : decode code 1165 = .ok (.iaload, 1) := by decide +kernel
theorem d_law_1166 : decode code 1166 = .ok (.invokevirtual 130, 3) := by decide +kernel
theorem d_law_1169 : decode code 1169 = .ok (.lcmp, 1) := by decide +kernel
theorem d_law_1170 : decode code 1170 = .ok (.ifCond .eq 266, 3) := by decide +kernel
theorem d_law_1173 : decode code 1173 = .ok (.iconst 0, 1) := by decide +kernel
theorem d_law_1174 : decode code 1174 = .ok (.ireturn, 1) := by decide +kernel
theorem d_law_1175 : decode code 1175 = .ok (.aload_n 1, 1) := by decide +kernel
theorem d_law_1176 : decode code 1176 = .ok (.invokevirtual 131, 3) := by decide +kernel
theorem d_law_1179 : decode code 1179 = .ok (.aload_n 2, 1) := by decide +kernel
theorem d_law_1180 : decode code 1180 = .ok (.invokevirtual 134, 3) := by decide +kernel
theorem d_law_1183 : decode code 1183 = .ok (.if_icmp .eq 253, 3) := by decide +kernel
theorem d_law_1186 : decode code 1186 = .ok (.iconst 0, 1) := by decide +kernel
theorem d_law_1187 : decode code 1187 = .ok (.ireturn, 1) := by decide +kernel
theorem d_law_1188 : decode code 1188 = .ok (.aload_n 1, 1) := by decide +kernel
theorem d_law_1189 : decode code 1189 = .ok (.invokevirtual 135, 3) := by decide +kernel
theorem d_law_1192 : decode code 1192 = .ok (.aload_n 2, 1) := by decide +kernel
theorem d_law_1193 : decode code 1193 = .ok (.invokevirtual 138, 3) := by decide +kernel
theorem d_law_1196 : decode code 1196 = .ok (.if_icmp .eq 240, 3) := by decide +kernel
theorem d_law_1199 : decode code 1199 = .ok (.iconst 0, 1) := by decide +kernel
