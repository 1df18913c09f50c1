/-! THE LAW, 2.1: its rows (by wip/whole/gen9f.py) -/
theorem dl_897 : decode code 897 = .ok (.ifCond .eq (7), 3) := by decide +kernel
theorem dl_900 : decode code 900 = .ok (.iconst 1, 1) := by decide +kernel
theorem dl_901 : decode code 901 = .ok (.goto (4), 3) := by decide +kernel
theorem dl_904 : decode code 904 = .ok (.iconst 0, 1) := by decide +kernel
theorem dl_905 : decode code 905 = .ok (.invokevirtual 201, 3) := by decide +kernel
theorem dl_908 : decode code 908 = .ok (.istore 6, 2) := by decide +kernel
theorem dl_910 : decode code 910 = .ok (.aload_n 2, 1) := by decide +kernel
theorem dl_911 : decode code 911 = .ok (.invokevirtual 176, 3) := by decide +kernel
theorem dl_914 : decode code 914 = .ok (.iload 5, 2) := by decide +kernel
theorem dl_916 : decode code 916 = .ok (.if_icmp .eq (5), 3) := by decide +kernel
theorem dl_921 : decode code 921 = .ok (.iload 5, 2) := by decide +kernel
theorem dl_923 : decode code 923 = .ok (.ifCond .ne (15), 3) := by decide +kernel
theorem dl_926 : decode code 926 = .ok (.aload_n 3, 1) := by decide +kernel
theorem dl_927 : decode code 927 = .ok (.iconst 0, 1) := by decide +kernel
theorem dl_928 : decode code 928 = .ok (.laload, 1) := by decide +kernel
theorem dl_929 : decode code 929 = .ok (.iload 6, 2) := by decide +kernel
theorem dl_931 : decode code 931 = .ok (.i2l, 1) := by decide +kernel
theorem dl_932 : decode code 932 = .ok (.lcmp, 1) := by decide +kernel
theorem dl_933 : decode code 933 = .ok (.ifCond .eq (5), 3) := by decide +kernel
theorem dl_938 : decode code 938 = .ok (.goto (2087), 3) := by decide +kernel
theorem dl_941 : decode code 941 = .ok (.aload_n 1, 1) := by decide +kernel
theorem dl_942 : decode code 942 = .ok (.aload_n 0, 1) := by decide +kernel
theorem dl_943 : decode code 943 = .ok (.iload 4, 2) := by decide +kernel
theorem dl_945 : decode code 945 = .ok (.iconst 1, 1) := by decide +kernel
theorem dl_946 : decode code 946 = .ok (.iadd, 1) := by decide +kernel
theorem dl_947 : decode code 947 = .ok (.iaload, 1) := by decide +kernel
theorem dl_948 : decode code 948 = .ok (.aload_n 0, 1) := by decide +kernel
theorem dl_949 : decode code 949 = .ok (.iload 4, 2) := by decide +kernel
theorem dl_951 : decode code 951 = .ok (.iconst 2, 1) := by decide +kernel
theorem dl_952 : decode code 952 = .ok (.iadd, 1) := by decide +kernel
theorem dl_953 : decode code 953 = .ok (.iaload, 1) := by decide +kernel
theorem dl_954 : decode code 954 = .ok (.aload_n 0, 1) := by decide +kernel
theorem dl_955 : decode code 955 = .ok (.iload 4, 2) := by decide +kernel
theorem dl_957 : decode code 957 = .ok (.iconst 3, 1) := by decide +kernel
theorem dl_958 : decode code 958 = .ok (.iadd, 1) := by decide +kernel
theorem dl_959 : decode code 959 = .ok (.iaload, 1) := by decide +kernel
theorem dl_960 : decode code 960 = .ok (.aload_n 3, 1) := by decide +kernel
theorem dl_961 : decode code 961 = .ok (.invokestatic 202, 3) := by decide +kernel
theorem dl_964 : decode code 964 = .ok (.istore 5, 2) := by decide +kernel
theorem dl_966 : decode code 966 = .ok (.aload_n 2, 1) := by decide +kernel
theorem dl_967 : decode code 967 = .ok (.aload_n 0, 1) := by decide +kernel
theorem dl_968 : decode code 968 = .ok (.iload 4, 2) := by decide +kernel
theorem dl_970 : decode code 970 = .ok (.iconst 1, 1) := by decide +kernel
theorem dl_971 : decode code 971 = .ok (.iadd, 1) := by decide +kernel
theorem dl_972 : decode code 972 = .ok (.iaload, 1) := by decide +kernel
theorem dl_973 : decode code 973 = .ok (.aload_n 0, 1) := by decide +kernel
theorem dl_974 : decode code 974 = .ok (.iload 4, 2) := by decide +kernel
theorem dl_976 : decode code 976 = .ok (.iconst 2, 1) := by decide +kernel
theorem dl_977 : decode code 977 = .ok (.iadd, 1) := by decide +kernel
theorem dl_978 : decode code 978 = .ok (.iaload, 1) := by decide +kernel
theorem dl_979 : decode code 979 = .ok (.aload_n 0, 1) := by decide +kernel
theorem dl_980 : decode code 980 = .ok (.iload 4, 2) := by decide +kernel
theorem dl_982 : decode code 982 = .ok (.iconst 3, 1) := by decide +kernel
theorem dl_983 : decode code 983 = .ok (.iadd, 1) := by decide +kernel
theorem dl_984 : decode code 984 = .ok (.iaload, 1) := by decide +kernel
theorem dl_985 : decode code 985 = .ok (.invokevirtual 205, 3) := by decide +kernel
theorem dl_988 : decode code 988 = .ok (.istore 6, 2) := by decide +kernel
theorem dl_990 : decode code 990 = .ok (.aload_n 2, 1) := by decide +kernel
theorem dl_991 : decode code 991 = .ok (.invokevirtual 176, 3) := by decide +kernel
theorem dl_994 : decode code 994 = .ok (.iload 5, 2) := by decide +kernel
theorem dl_996 : decode code 996 = .ok (.if_icmp .eq (5), 3) := by decide +kernel
theorem dl_1001 : decode code 1001 = .ok (.iload 5, 2) := by decide +kernel
theorem dl_1003 : decode code 1003 = .ok (.ifCond .ne (15), 3) := by decide +kernel
theorem dl_1006 : decode code 1006 = .ok (.aload_n 3, 1) := by decide +kernel
theorem dl_1007 : decode code 1007 = .ok (.iconst 0, 1) := by decide +kernel
theorem dl_1008 : decode code 1008 = .ok (.laload, 1) := by decide +kernel
theorem dl_1009 : decode code 1009 = .ok (.iload 6, 2) := by decide +kernel
theorem dl_1011 : decode code 1011 = .ok (.i2l, 1) := by decide +kernel
theorem dl_1012 : decode code 1012 = .ok (.lcmp, 1) := by decide +kernel
theorem dl_1013 : decode code 1013 = .ok (.ifCond .eq (5), 3) := by decide +kernel
theorem dl_1018 : decode code 1018 = .ok (.goto (2007), 3) := by decide +kernel
theorem dl_1021 : decode code 1021 = .ok (.aload_n 1, 1) := by decide +kernel
theorem dl_1022 : decode code 1022 = .ok (.aload_n 0, 1) := by decide +kernel
theorem dl_1023 : decode code 1023 = .ok (.iload 4, 2) := by decide +kernel
theorem dl_1025 : decode code 1025 = .ok (.iconst 1, 1) := by decide +kernel
theorem dl_1026 : decode code 1026 = .ok (.iadd, 1) := by decide +kernel
theorem dl_1027 : decode code 1027 = .ok (.iaload, 1) := by decide +kernel
theorem dl_1028 : decode code 1028 = .ok (.aload_n 0, 1) := by decide +kernel
theorem dl_1029 : decode code 1029 = .ok (.iload 4, 2) := by decide +kernel
theorem dl_1031 : decode code 1031 = .ok (.iconst 2, 1) := by decide +kernel
theorem dl_1032 : decode code 1032 = .ok (.iadd, 1) := by decide +kernel
theorem dl_1033 : decode code 1033 = .ok (.iaload, 1) := by decide +kernel
theorem dl_1034 : decode code 1034 = .ok (.aload_n 3, 1) := by decide +kernel
theorem dl_1035 : decode code 1035 = .ok (.invokestatic 206, 3) := by decide +kernel
theorem dl_1038 : decode code 1038 = .ok (.istore 5, 2) := by decide +kernel
theorem dl_1040 : decode code 1040 = .ok (.aload_n 2, 1) := by decide +kernel
theorem dl_1041 : decode code 1041 = .ok (.aload_n 0, 1) := by decide +kernel
theorem dl_1042 : decode code 1042 = .ok (.iload 4, 2) := by decide +kernel
theorem dl_1044 : decode code 1044 = .ok (.iconst 1, 1) := by decide +kernel
theorem dl_1045 : decode code 1045 = .ok (.iadd, 1) := by decide +kernel
theorem dl_1046 : decode code 1046 = .ok (.iaload, 1) := by decide +kernel
theorem dl_1047 : decode code 1047 = .ok (.aload_n 0, 1) := by decide +kernel
theorem dl_1048 : decode code 1048 = .ok (.iload 4, 2) := by decide +kernel
theorem dl_1050 : decode code 1050 = .ok (.iconst 2, 1) := by decide +kernel
theorem dl_1051 : decode code 1051 = .ok (.iadd, 1) := by decide +kernel
theorem dl_1052 : decode code 1052 = .ok (.iaload, 1) := by decide +kernel
theorem dl_1053 : decode code 1053 = .ok (.invokevirtual 208, 3) := by decide +kernel
theorem dl_1056 : decode code 1056 = .ok (.istore 6, 2) := by decide +kernel
theorem dl_1058 : decode code 1058 = .ok (.aload_n 2, 1) := by decide +kernel
theorem dl_1059 : decode code 1059 = .ok (.invokevirtual 176, 3) := by decide +kernel
theorem dl_1062 : decode code 1062 = .ok (.iload 5, 2) := by decide +kernel
theorem dl_1064 : decode code 1064 = .ok (.if_icmp .eq (5), 3) := by decide +kernel
theorem dl_1069 : decode code 1069 = .ok (.iload 5, 2) := by decide +kernel
theorem dl_1071 : decode code 1071 = .ok (.ifCond .ne (15), 3) := by decide +kernel
theorem dl_1074 : decode code 1074 = .ok (.aload_n 3, 1) := by decide +kernel
theorem dl_1075 : decode code 1075 = .ok (.iconst 0, 1) := by decide +kernel
theorem dl_1076 : decode code 1076 = .ok (.laload, 1) := by decide +kernel
theorem dl_1077 : decode code 1077 = .ok (.iload 6, 2) := by decide +kernel
theorem dl_1079 : decode code 1079 = .ok (.i2l, 1) := by decide +kernel
theorem dl_1080 : decode code 1080 = .ok (.lcmp, 1) := by decide +kernel
theorem dl_1081 : decode code 1081 = .ok (.ifCond .eq (5), 3) := by decide +kernel
theorem dl_1086 : decode code 1086 = .ok (.goto (1939), 3) := by decide +kernel
theorem dl_1089 : decode code 1089 = .ok (.aload_n 1, 1) := by decide +kernel
theorem dl_1090 : decode code 1090 = .ok (.aload_n 0, 1) := by decide +kernel
theorem dl_1091 : decode code 1091 = .ok (.iload 4, 2) := by decide +kernel
theorem dl_1093 : decode code 1093 = .ok (.iconst 1, 1) := by decide +kernel
theorem dl_1094 : decode code 1094 = .ok (.iadd, 1) := by decide +kernel
theorem dl_1095 : decode code 1095 = .ok (.iaload, 1) := by decide +kernel
theorem dl_1096 : decode code 1096 = .ok (.aload_n 3, 1) := by decide +kernel
theorem dl_1097 : decode code 1097 = .ok (.invokestatic 209, 3) := by decide +kernel
theorem dl_1100 : decode code 1100 = .ok (.istore 5, 2) := by decide +kernel
theorem dl_1102 : decode code 1102 = .ok (.aload_n 2, 1) := by decide +kernel
theorem dl_1103 : decode code 1103 = .ok (.aload_n 0, 1) := by decide +kernel
theorem dl_1104 : decode code 1104 = .ok (.iload 4, 2) := by decide +kernel
theorem dl_1106 : decode code 1106 = .ok (.iconst 1, 1) := by decide +kernel
theorem dl_1107 : decode code 1107 = .ok (.iadd, 1) := by decide +kernel
theorem dl_1108 : decode code 1108 = .ok (.iaload, 1) := by decide +kernel
theorem dl_1109 : decode code 1109 = .ok (.invokevirtual 211, 3) := by decide +kernel
theorem dl_1112 : decode code 1112 = .ok (.istore 6, 2) := by decide +kernel
theorem dl_1114 : decode code 1114 = .ok (.aload_n 2, 1) := by decide +kernel
theorem dl_1115 : decode code 1115 = .ok (.invokevirtual 176, 3) := by decide +kernel
theorem dl_1118 : decode code 1118 = .ok (.iload 5, 2) := by decide +kernel
theorem dl_1120 : decode code 1120 = .ok (.if_icmp .eq (5), 3) := by decide +kernel
theorem dl_1125 : decode code 1125 = .ok (.iload 5, 2) := by decide +kernel
theorem dl_1127 : decode code 1127 = .ok (.ifCond .ne (15), 3) := by decide +kernel
theorem dl_1130 : decode code 1130 = .ok (.aload_n 3, 1) := by decide +kernel
theorem dl_1131 : decode code 1131 = .ok (.iconst 0, 1) := by decide +kernel
theorem dl_1132 : decode code 1132 = .ok (.laload, 1) := by decide +kernel
theorem dl_1133 : decode code 1133 = .ok (.iload 6, 2) := by decide +kernel
theorem dl_1135 : decode code 1135 = .ok (.i2l, 1) := by decide +kernel
theorem dl_1136 : decode code 1136 = .ok (.lcmp, 1) := by decide +kernel
theorem dl_1137 : decode code 1137 = .ok (.ifCond .eq (5), 3) := by decide +kernel
theorem dl_1142 : decode code 1142 = .ok (.goto (1883), 3) := by decide +kernel
theorem dl_1145 : decode code 1145 = .ok (.aload_n 1, 1) := by decide +kernel
theorem dl_1146 : decode code 1146 = .ok (.aload_n 0, 1) := by decide +kernel
theorem dl_1147 : decode code 1147 = .ok (.iload 4, 2) := by decide +kernel
theorem dl_1149 : decode code 1149 = .ok (.iconst 1, 1) := by decide +kernel
theorem dl_1150 : decode code 1150 = .ok (.iadd, 1) := by decide +kernel
theorem dl_1151 : decode code 1151 = .ok (.iaload, 1) := by decide +kernel
theorem dl_1152 : decode code 1152 = .ok (.aload_n 3, 1) := by decide +kernel
theorem dl_1153 : decode code 1153 = .ok (.invokestatic 212, 3) := by decide +kernel
theorem dl_1156 : decode code 1156 = .ok (.istore 5, 2) := by decide +kernel
theorem dl_1158 : decode code 1158 = .ok (.aload_n 2, 1) := by decide +kernel
theorem dl_1159 : decode code 1159 = .ok (.aload_n 0, 1) := by decide +kernel
theorem dl_1160 : decode code 1160 = .ok (.iload 4, 2) := by decide +kernel
theorem dl_1162 : decode code 1162 = .ok (.iconst 1, 1) := by decide +kernel
theorem dl_1163 : decode code 1163 = .ok (.iadd, 1) := by decide +kernel
theorem dl_1164 : decode code 1164 = .ok (.iaload, 1) := by decide +kernel
theorem dl_1165 : decode code 1165 = .ok (.invokevirtual 214, 3) := by decide +kernel
theorem dl_1168 : decode code 1168 = .ok (.istore 6, 2) := by decide +kernel
theorem dl_1170 : decode code 1170 = .ok (.aload_n 2, 1) := by decide +kernel
theorem dl_1171 : decode code 1171 = .ok (.invokevirtual 176, 3) := by decide +kernel
theorem dl_1174 : decode code 1174 = .ok (.iload 5, 2) := by decide +kernel
theorem dl_1176 : decode code 1176 = .ok (.if_icmp .eq (5), 3) := by decide +kernel
theorem dl_1181 : decode code 1181 = .ok (.iload 5, 2) := by decide +kernel
theorem dl_1183 : decode code 1183 = .ok (.ifCond .ne (15), 3) := by decide +kernel
theorem dl_1186 : decode code 1186 = .ok (.aload_n 3, 1) := by decide +kernel
theorem dl_1187 : decode code 1187 = .ok (.iconst 0, 1) := by decide +kernel
theorem dl_1188 : decode code 1188 = .ok (.laload, 1) := by decide +kernel
theorem dl_1189 : decode code 1189 = .ok (.iload 6, 2) := by decide +kernel
theorem dl_1191 : decode code 1191 = .ok (.i2l, 1) := by decide +kernel
theorem dl_1192 : decode code 1192 = .ok (.lcmp, 1) := by decide +kernel
theorem dl_1193 : decode code 1193 = .ok (.ifCond .eq (5), 3) := by decide +kernel
theorem dl_1198 : decode code 1198 = .ok (.goto (1827), 3) := by decide +kernel
theorem dl_1201 : decode code 1201 = .ok (.aload_n 1, 1) := by decide +kernel
theorem dl_1202 : decode code 1202 = .ok (.aload_n 0, 1) := by decide +kernel
theorem dl_1203 : decode code 1203 = .ok (.iload 4, 2) := by decide +kernel
theorem dl_1205 : decode code 1205 = .ok (.iconst 1, 1) := by decide +kernel
theorem dl_1206 : decode code 1206 = .ok (.iadd, 1) := by decide +kernel
theorem dl_1207 : decode code 1207 = .ok (.iaload, 1) := by decide +kernel
theorem dl_1208 : decode code 1208 = .ok (.aload_n 3, 1) := by decide +kernel
theorem dl_1209 : decode code 1209 = .ok (.invokestatic 215, 3) := by decide +kernel
theorem dl_1212 : decode code 1212 = .ok (.istore 5, 2) := by decide +kernel
theorem dl_1214 : decode code 1214 = .ok (.aload_n 2, 1) := by decide +kernel
theorem dl_1215 : decode code 1215 = .ok (.aload_n 0, 1) := by decide +kernel
theorem dl_1216 : decode code 1216 = .ok (.iload 4, 2) := by decide +kernel
theorem dl_1218 : decode code 1218 = .ok (.iconst 1, 1) := by decide +kernel
theorem dl_1219 : decode code 1219 = .ok (.iadd, 1) := by decide +kernel
theorem dl_1220 : decode code 1220 = .ok (.iaload, 1) := by decide +kernel
theorem dl_1221 : decode code 1221 = .ok (.invokevirtual 217, 3) := by decide +kernel
theorem dl_1224 : decode code 1224 = .ok (.istore 6, 2) := by decide +kernel
theorem dl_1226 : decode code 1226 = .ok (.aload_n 2, 1) := by decide +kernel
theorem dl_1227 : decode code 1227 = .ok (.invokevirtual 176, 3) := by decide +kernel
theorem dl_1230 : decode code 1230 = .ok (.iload 5, 2) := by decide +kernel
theorem dl_1232 : decode code 1232 = .ok (.if_icmp .eq (5), 3) := by decide +kernel
theorem dl_1237 : decode code 1237 = .ok (.iload 5, 2) := by decide +kernel
theorem dl_1239 : decode code 1239 = .ok (.ifCond .ne (22), 3) := by decide +kernel
theorem dl_1242 : decode code 1242 = .ok (.aload_n 3, 1) := by decide +kernel
theorem dl_1243 : decode code 1243 = .ok (.iconst 0, 1) := by decide +kernel
theorem dl_1244 : decode code 1244 = .ok (.laload, 1) := by decide +kernel
theorem dl_1245 : decode code 1245 = .ok (.iload 6, 2) := by decide +kernel
theorem dl_1247 : decode code 1247 = .ok (.ifCond .eq (7), 3) := by decide +kernel
theorem dl_1250 : decode code 1250 = .ok (.lconst 1, 1) := by decide +kernel
theorem dl_1251 : decode code 1251 = .ok (.goto (4), 3) := by decide +kernel
theorem dl_1254 : decode code 1254 = .ok (.lconst 0, 1) := by decide +kernel
theorem dl_1255 : decode code 1255 = .ok (.lcmp, 1) := by decide +kernel
theorem dl_1256 : decode code 1256 = .ok (.ifCond .eq (5), 3) := by decide +kernel
theorem dl_1261 : decode code 1261 = .ok (.goto (1764), 3) := by decide +kernel
theorem dl_1264 : decode code 1264 = .ok (.aload_n 1, 1) := by decide +kernel
theorem dl_1265 : decode code 1265 = .ok (.aload_n 0, 1) := by decide +kernel
theorem dl_1266 : decode code 1266 = .ok (.iload 4, 2) := by decide +kernel
theorem dl_1268 : decode code 1268 = .ok (.iconst 1, 1) := by decide +kernel
theorem dl_1269 : decode code 1269 = .ok (.iadd, 1) := by decide +kernel
theorem dl_1270 : decode code 1270 = .ok (.iaload, 1) := by decide +kernel
theorem dl_1271 : decode code 1271 = .ok (.aload_n 3, 1) := by decide +kernel
theorem dl_1272 : decode code 1272 = .ok (.invokestatic 218, 3) := by decide +kernel
theorem dl_1275 : decode code 1275 = .ok (.istore 5, 2) := by decide +kernel
theorem dl_1277 : decode code 1277 = .ok (.aload_n 2, 1) := by decide +kernel
theorem dl_1278 : decode code 1278 = .ok (.aload_n 0, 1) := by decide +kernel
theorem dl_1279 : decode code 1279 = .ok (.iload 4, 2) := by decide +kernel
theorem dl_1281 : decode code 1281 = .ok (.iconst 1, 1) := by decide +kernel
theorem dl_1282 : decode code 1282 = .ok (.iadd, 1) := by decide +kernel
theorem dl_1283 : decode code 1283 = .ok (.iaload, 1) := by decide +kernel
theorem dl_1284 : decode code 1284 = .ok (.invokevirtual 220, 3) := by decide +kernel
theorem dl_1287 : decode code 1287 = .ok (.istore 6, 2) := by decide +kernel
theorem dl_1289 : decode code 1289 = .ok (.aload_n 2, 1) := by decide +kernel
theorem dl_1290 : decode code 1290 = .ok (.invokevirtual 176, 3) := by decide +kernel
theorem dl_1293 : decode code 1293 = .ok (.iload 5, 2) := by decide +kernel
theorem dl_1295 : decode code 1295 = .ok (.if_icmp .eq (5), 3) := by decide +kernel
theorem dl_1300 : decode code 1300 = .ok (.iload 5, 2) := by decide +kernel
theorem dl_1302 : decode code 1302 = .ok (.ifCond .ne (15), 3) := by decide +kernel
theorem dl_1305 : decode code 1305 = .ok (.aload_n 3, 1) := by decide +kernel
theorem dl_1306 : decode code 1306 = .ok (.iconst 0, 1) := by decide +kernel
theorem dl_1307 : decode code 1307 = .ok (.laload, 1) := by decide +kernel
theorem dl_1308 : decode code 1308 = .ok (.iload 6, 2) := by decide +kernel
theorem dl_1310 : decode code 1310 = .ok (.i2l, 1) := by decide +kernel
theorem dl_1311 : decode code 1311 = .ok (.lcmp, 1) := by decide +kernel
theorem dl_1312 : decode code 1312 = .ok (.ifCond .eq (5), 3) := by decide +kernel
theorem dl_1317 : decode code 1317 = .ok (.goto (1708), 3) := by decide +kernel
theorem dl_1320 : decode code 1320 = .ok (.aload_n 1, 1) := by decide +kernel
theorem dl_1321 : decode code 1321 = .ok (.invokevirtual 221, 3) := by decide +kernel
theorem dl_1324 : decode code 1324 = .ok (.aload_n 2, 1) := by decide +kernel
theorem dl_1325 : decode code 1325 = .ok (.invokevirtual 224, 3) := by decide +kernel
theorem dl_1328 : decode code 1328 = .ok (.if_icmp .eq (1697), 3) := by decide +kernel
theorem dl_1333 : decode code 1333 = .ok (.aload_n 1, 1) := by decide +kernel
theorem dl_1334 : decode code 1334 = .ok (.aload_n 0, 1) := by decide +kernel
theorem dl_1335 : decode code 1335 = .ok (.iload 4, 2) := by decide +kernel
theorem dl_1337 : decode code 1337 = .ok (.iconst 1, 1) := by decide +kernel
theorem dl_1338 : decode code 1338 = .ok (.iadd, 1) := by decide +kernel
theorem dl_1339 : decode code 1339 = .ok (.iaload, 1) := by decide +kernel
theorem dl_1340 : decode code 1340 = .ok (.aload_n 3, 1) := by decide +kernel
theorem dl_1341 : decode code 1341 = .ok (.invokestatic 225, 3) := by decide +kernel
theorem dl_1344 : decode code 1344 = .ok (.istore 5, 2) := by decide +kernel
theorem dl_1346 : decode code 1346 = .ok (.aload_n 2, 1) := by decide +kernel
theorem dl_1347 : decode code 1347 = .ok (.aload_n 0, 1) := by decide +kernel
theorem dl_1348 : decode code 1348 = .ok (.iload 4, 2) := by decide +kernel
theorem dl_1350 : decode code 1350 = .ok (.iconst 1, 1) := by decide +kernel
theorem dl_1351 : decode code 1351 = .ok (.iadd, 1) := by decide +kernel
theorem dl_1352 : decode code 1352 = .ok (.iaload, 1) := by decide +kernel
theorem dl_1353 : decode code 1353 = .ok (.invokevirtual 227, 3) := by decide +kernel
theorem dl_1356 : decode code 1356 = .ok (.istore 6, 2) := by decide +kernel
theorem dl_1358 : decode code 1358 = .ok (.aload_n 2, 1) := by decide +kernel
theorem dl_1359 : decode code 1359 = .ok (.invokevirtual 176, 3) := by decide +kernel
theorem dl_1362 : decode code 1362 = .ok (.iload 5, 2) := by decide +kernel
theorem dl_1364 : decode code 1364 = .ok (.if_icmp .eq (5), 3) := by decide +kernel
theorem dl_1369 : decode code 1369 = .ok (.iload 5, 2) := by decide +kernel
theorem dl_1371 : decode code 1371 = .ok (.ifCond .ne (15), 3) := by decide +kernel
theorem dl_1374 : decode code 1374 = .ok (.aload_n 3, 1) := by decide +kernel
theorem dl_1375 : decode code 1375 = .ok (.iconst 0, 1) := by decide +kernel
theorem dl_1376 : decode code 1376 = .ok (.laload, 1) := by decide +kernel
theorem dl_1377 : decode code 1377 = .ok (.iload 6, 2) := by decide +kernel
theorem dl_1379 : decode code 1379 = .ok (.i2l, 1) := by decide +kernel
theorem dl_1380 : decode code 1380 = .ok (.lcmp, 1) := by decide +kernel
theorem dl_1381 : decode code 1381 = .ok (.ifCond .eq (5), 3) := by decide +kernel
theorem dl_1386 : decode code 1386 = .ok (.goto (1639), 3) := by decide +kernel
theorem dl_1389 : decode code 1389 = .ok (.aload_n 1, 1) := by decide +kernel
theorem dl_1390 : decode code 1390 = .ok (.aload_n 0, 1) := by decide +kernel
theorem dl_1391 : decode code 1391 = .ok (.iload 4, 2) := by decide +kernel
theorem dl_1393 : decode code 1393 = .ok (.iconst 1, 1) := by decide +kernel
theorem dl_1394 : decode code 1394 = .ok (.iadd, 1) := by decide +kernel
theorem dl_1395 : decode code 1395 = .ok (.iaload, 1) := by decide +kernel
theorem dl_1396 : decode code 1396 = .ok (.aload_n 3, 1) := by decide +kernel
theorem dl_1397 : decode code 1397 = .ok (.invokestatic 228, 3) := by decide +kernel
theorem dl_1400 : decode code 1400 = .ok (.istore 5, 2) := by decide +kernel
theorem dl_1402 : decode code 1402 = .ok (.aload_n 2, 1) := by decide +kernel
theorem dl_1403 : decode code 1403 = .ok (.aload_n 0, 1) := by decide +kernel
theorem dl_1404 : decode code 1404 = .ok (.iload 4, 2) := by decide +kernel
theorem dl_1406 : decode code 1406 = .ok (.iconst 1, 1) := by decide +kernel
theorem dl_1407 : decode code 1407 = .ok (.iadd, 1) := by decide +kernel
theorem dl_1408 : decode code 1408 = .ok (.iaload, 1) := by decide +kernel
theorem dl_1409 : decode code 1409 = .ok (.invokevirtual 230, 3) := by decide +kernel
theorem dl_1412 : decode code 1412 = .ok (.istore 6, 2) := by decide +kernel
theorem dl_1414 : decode code 1414 = .ok (.aload_n 2, 1) := by decide +kernel
theorem dl_1415 : decode code 1415 = .ok (.invokevirtual 176, 3) := by decide +kernel
theorem dl_1418 : decode code 1418 = .ok (.iload 5, 2) := by decide +kernel
theorem dl_1420 : decode code 1420 = .ok (.if_icmp .eq (5), 3) := by decide +kernel
theorem dl_1425 : decode code 1425 = .ok (.iload 5, 2) := by decide +kernel
theorem dl_1427 : decode code 1427 = .ok (.ifCond .ne (15), 3) := by decide +kernel
theorem dl_1430 : decode code 1430 = .ok (.aload_n 3, 1) := by decide +kernel
theorem dl_1431 : decode code 1431 = .ok (.iconst 0, 1) := by decide +kernel
theorem dl_1432 : decode code 1432 = .ok (.laload, 1) := by decide +kernel
theorem dl_1433 : decode code 1433 = .ok (.iload 6, 2) := by decide +kernel
theorem dl_1435 : decode code 1435 = .ok (.i2l, 1) := by decide +kernel
theorem dl_1436 : decode code 1436 = .ok (.lcmp, 1) := by decide +kernel
theorem dl_1437 : decode code 1437 = .ok (.ifCond .eq (5), 3) := by decide +kernel
theorem dl_1442 : decode code 1442 = .ok (.goto (1583), 3) := by decide +kernel
theorem dl_1445 : decode code 1445 = .ok (.aload_n 1, 1) := by decide +kernel
theorem dl_1446 : decode code 1446 = .ok (.invokevirtual 231, 3) := by decide +kernel
theorem dl_1449 : decode code 1449 = .ok (.aload_n 2, 1) := by decide +kernel
theorem dl_1450 : decode code 1450 = .ok (.invokevirtual 234, 3) := by decide +kernel
theorem dl_1453 : decode code 1453 = .ok (.if_icmp .eq (1572), 3) := by decide +kernel
theorem dl_1458 : decode code 1458 = .ok (.aload_n 1, 1) := by decide +kernel
theorem dl_1459 : decode code 1459 = .ok (.aload_n 0, 1) := by decide +kernel
theorem dl_1460 : decode code 1460 = .ok (.iload 4, 2) := by decide +kernel
theorem dl_1462 : decode code 1462 = .ok (.iconst 1, 1) := by decide +kernel
theorem dl_1463 : decode code 1463 = .ok (.iadd, 1) := by decide +kernel
theorem dl_1464 : decode code 1464 = .ok (.iaload, 1) := by decide +kernel
theorem dl_1465 : decode code 1465 = .ok (.aload_n 0, 1) := by decide +kernel
theorem dl_1466 : decode code 1466 = .ok (.iload 4, 2) := by decide +kernel
theorem dl_1468 : decode code 1468 = .ok (.iconst 2, 1) := by decide +kernel
theorem dl_1469 : decode code 1469 = .ok (.iadd, 1) := by decide +kernel
theorem dl_1470 : decode code 1470 = .ok (.iaload, 1) := by decide +kernel
theorem dl_1471 : decode code 1471 = .ok (.aload_n 3, 1) := by decide +kernel
theorem dl_1472 : decode code 1472 = .ok (.invokestatic 235, 3) := by decide +kernel
theorem dl_1475 : decode code 1475 = .ok (.istore 5, 2) := by decide +kernel
theorem dl_1477 : decode code 1477 = .ok (.aload_n 2, 1) := by decide +kernel
theorem dl_1478 : decode code 1478 = .ok (.aload_n 0, 1) := by decide +kernel
theorem dl_1479 : decode code 1479 = .ok (.iload 4, 2) := by decide +kernel
theorem dl_1481 : decode code 1481 = .ok (.iconst 1, 1) := by decide +kernel
theorem dl_1482 : decode code 1482 = .ok (.iadd, 1) := by decide +kernel
theorem dl_1483 : decode code 1483 = .ok (.iaload, 1) := by decide +kernel
theorem dl_1484 : decode code 1484 = .ok (.aload_n 0, 1) := by decide +kernel
theorem dl_1485 : decode code 1485 = .ok (.iload 4, 2) := by decide +kernel
theorem dl_1487 : decode code 1487 = .ok (.iconst 2, 1) := by decide +kernel
theorem dl_1488 : decode code 1488 = .ok (.iadd, 1) := by decide +kernel
theorem dl_1489 : decode code 1489 = .ok (.iaload, 1) := by decide +kernel
theorem dl_1490 : decode code 1490 = .ok (.invokevirtual 237, 3) := by decide +kernel
theorem dl_1493 : decode code 1493 = .ok (.istore 6, 2) := by decide +kernel
theorem dl_1495 : decode code 1495 = .ok (.aload_n 2, 1) := by decide +kernel
theorem dl_1496 : decode code 1496 = .ok (.invokevirtual 176, 3) := by decide +kernel
theorem dl_1499 : decode code 1499 = .ok (.iload 5, 2) := by decide +kernel
theorem dl_1501 : decode code 1501 = .ok (.if_icmp .eq (5), 3) := by decide +kernel
theorem dl_1506 : decode code 1506 = .ok (.iload 5, 2) := by decide +kernel
theorem dl_1508 : decode code 1508 = .ok (.ifCond .ne (15), 3) := by decide +kernel
theorem dl_1511 : decode code 1511 = .ok (.aload_n 3, 1) := by decide +kernel
theorem dl_1512 : decode code 1512 = .ok (.iconst 0, 1) := by decide +kernel
theorem dl_1513 : decode code 1513 = .ok (.laload, 1) := by decide +kernel
theorem dl_1514 : decode code 1514 = .ok (.iload 6, 2) := by decide +kernel
theorem dl_1516 : decode code 1516 = .ok (.i2l, 1) := by decide +kernel
theorem dl_1517 : decode code 1517 = .ok (.lcmp, 1) := by decide +kernel
theorem dl_1518 : decode code 1518 = .ok (.ifCond .eq (5), 3) := by decide +kernel
theorem dl_1523 : decode code 1523 = .ok (.goto (1502), 3) := by decide +kernel
theorem dl_1526 : decode code 1526 = .ok (.aload_n 1, 1) := by decide +kernel
theorem dl_1527 : decode code 1527 = .ok (.aload_n 0, 1) := by decide +kernel
theorem dl_1528 : decode code 1528 = .ok (.iload 4, 2) := by decide +kernel
theorem dl_1530 : decode code 1530 = .ok (.iconst 1, 1) := by decide +kernel
theorem dl_1531 : decode code 1531 = .ok (.iadd, 1) := by decide +kernel
theorem dl_1532 : decode code 1532 = .ok (.iaload, 1) := by decide +kernel
theorem dl_1533 : decode code 1533 = .ok (.aload_n 0, 1) := by decide +kernel
theorem dl_1534 : decode code 1534 = .ok (.iload 4, 2) := by decide +kernel
theorem dl_1536 : decode code 1536 = .ok (.iconst 2, 1) := by decide +kernel
theorem dl_1537 : decode code 1537 = .ok (.iadd, 1) := by decide +kernel
theorem dl_1538 : decode code 1538 = .ok (.iaload, 1) := by decide +kernel
theorem dl_1539 : decode code 1539 = .ok (.aload_n 3, 1) := by decide +kernel
theorem dl_1540 : decode code 1540 = .ok (.invokestatic 238, 3) := by decide +kernel
theorem dl_1543 : decode code 1543 = .ok (.istore 5, 2) := by decide +kernel
theorem dl_1545 : decode code 1545 = .ok (.aload_n 2, 1) := by decide +kernel
theorem dl_1546 : decode code 1546 = .ok (.aload_n 0, 1) := by decide +kernel
theorem dl_1547 : decode code 1547 = .ok (.iload 4, 2) := by decide +kernel
theorem dl_1549 : decode code 1549 = .ok (.iconst 1, 1) := by decide +kernel
theorem dl_1550 : decode code 1550 = .ok (.iadd, 1) := by decide +kernel
theorem dl_1551 : decode code 1551 = .ok (.iaload, 1) := by decide +kernel
theorem dl_1552 : decode code 1552 = .ok (.aload_n 0, 1) := by decide +kernel
theorem dl_1553 : decode code 1553 = .ok (.iload 4, 2) := by decide +kernel
theorem dl_1555 : decode code 1555 = .ok (.iconst 2, 1) := by decide +kernel
theorem dl_1556 : decode code 1556 = .ok (.iadd, 1) := by decide +kernel
theorem dl_1557 : decode code 1557 = .ok (.iaload, 1) := by decide +kernel
theorem dl_1558 : decode code 1558 = .ok (.invokevirtual 240, 3) := by decide +kernel
theorem dl_1561 : decode code 1561 = .ok (.istore 6, 2) := by decide +kernel
theorem dl_1563 : decode code 1563 = .ok (.aload_n 2, 1) := by decide +kernel
theorem dl_1564 : decode code 1564 = .ok (.invokevirtual 176, 3) := by decide +kernel
theorem dl_1567 : decode code 1567 = .ok (.iload 5, 2) := by decide +kernel
theorem dl_1569 : decode code 1569 = .ok (.if_icmp .eq (5), 3) := by decide +kernel
theorem dl_1574 : decode code 1574 = .ok (.iload 5, 2) := by decide +kernel
theorem dl_1576 : decode code 1576 = .ok (.ifCond .ne (15), 3) := by decide +kernel
theorem dl_1579 : decode code 1579 = .ok (.aload_n 3, 1) := by decide +kernel
theorem dl_1580 : decode code 1580 = .ok (.iconst 0, 1) := by decide +kernel
theorem dl_1581 : decode code 1581 = .ok (.laload, 1) := by decide +kernel
theorem dl_1582 : decode code 1582 = .ok (.iload 6, 2) := by decide +kernel
theorem dl_1584 : decode code 1584 = .ok (.i2l, 1) := by decide +kernel
theorem dl_1585 : decode code 1585 = .ok (.lcmp, 1) := by decide +kernel
theorem dl_1586 : decode code 1586 = .ok (.ifCond .eq (5), 3) := by decide +kernel
theorem dl_1591 : decode code 1591 = .ok (.goto (1434), 3) := by decide +kernel
theorem dl_1594 : decode code 1594 = .ok (.aload_n 1, 1) := by decide +kernel
theorem dl_1595 : decode code 1595 = .ok (.aload_n 0, 1) := by decide +kernel
theorem dl_1596 : decode code 1596 = .ok (.iload 4, 2) := by decide +kernel
