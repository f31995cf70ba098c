theorem l_W_1059 : jwLd code 1059 4 := ⟨by decide +kernel, by decide +kernel, by decide +kernel, by decide +kernel, by decide +kernel⟩
theorem d_W_1065 : decode code 1065 = .ok (.aload_n 3, 1) := by decide +kernel
theorem d_W_1066 : decode code 1066 = .ok (.invokestatic 201, 3) := by decide +kernel
theorem d_W_1069 : decode code 1069 = .ok (.istore 5, 2) := by decide +kernel
theorem d_W_1071 : decode code 1071 = .ok (.aload_n 2, 1) := by decide +kernel
theorem l_W_1072 : jwLd code 1072 1 := ⟨by decide +kernel, by decide +kernel, by decide +kernel, by decide +kernel, by decide +kernel⟩
theorem l_W_1078 : jwLd code 1078 2 := ⟨by decide +kernel, by decide +kernel, by decide +kernel, by decide +kernel, by decide +kernel⟩
theorem l_W_1084 : jwLd code 1084 3 := ⟨by decide +kernel, by decide +kernel, by decide +kernel, by decide +kernel, by decide +kernel⟩
theorem l_W_1090 : jwLd code 1090 4 := ⟨by decide +kernel, by decide +kernel, by decide +kernel, by decide +kernel, by decide +kernel⟩
theorem t_W_1096 : jwTl code 1096 203 15 := ⟨by decide +kernel, by decide +kernel, by decide +kernel, by decide +kernel, by decide +kernel, by decide +kernel, by decide +kernel, by decide +kernel⟩
theorem u_W_1096 : jwTi code 1096 1967 := ⟨by decide +kernel, by decide +kernel, by decide +kernel, by decide +kernel, by decide +kernel, by decide +kernel, by decide +kernel, by decide +kernel⟩
theorem d_W_1132 : decode code 1132 = .ok (.aload_n 1, 1) := by decide +kernel
theorem l_W_1133 : jwLd code 1133 1 := ⟨by decide +kernel, by decide +kernel, by decide +kernel, by decide +kernel, by decide +kernel⟩
theorem l_W_1139 : jwLd code 1139 2 := ⟨by decide +kernel, by decide +kernel, by decide +kernel, by decide +kernel, by decide +kernel⟩
theorem l_W_1145 : jwLd code 1145 3 := ⟨by decide +kernel, by decide +kernel, by decide +kernel, by decide +kernel, by decide +kernel⟩
theorem l_W_1151 : jwLd code 1151 4 := ⟨by decide +kernel, by decide +kernel, by decide +kernel, by decide +kernel, by decide +kernel⟩
theorem d_W_1157 : decode code 1157 = .ok (.aload_n 3, 1) := by decide +kernel
theorem d_W_1158 : decode code 1158 = .ok (.invokestatic 204, 3) := by decide +kernel
theorem d_W_1161 : decode code 1161 = .ok (.istore 5, 2) := by decide +kernel
theorem d_W_1163 : decode code 1163 = .ok (.aload_n 2, 1) := by decide +kernel
theorem l_W_1164 : jwLd code 1164 1 := ⟨by decide +kernel, by decide +kernel, by decide +kernel, by decide +kernel, by decide +kernel⟩
theorem l_W_1170 : jwLd code 1170 2 := ⟨by decide +kernel, by decide +kernel, by decide +kernel, by decide +kernel, by decide +kernel⟩
theorem l_W_1176 : jwLd code 1176 3 := ⟨by decide +kernel, by decide +kernel, by decide +kernel, by decide +kernel, by decide +kernel⟩
theorem l_W_1182 : jwLd code 1182 4 := ⟨by decide +kernel, by decide +kernel, by decide +kernel, by decide +kernel, by decide +kernel⟩
theorem t_W_1188 : jwTl code 1188 206 15 := ⟨by decide +kernel, by decide +kernel, by decide +kernel, by decide +kernel, by decide +kernel, by decide +kernel, by decide +kernel, by decide +kernel⟩
theorem u_W_1188 : jwTi code 1188 1875 := ⟨by decide +kernel, by decide +kernel, by decide +kernel, by decide +kernel, by decide +kernel, by decide +kernel, by decide +kernel, by decide +kernel⟩
theorem d_W_1224 : decode code 1224 = .ok (.aload_n 1, 1) := by decide +kernel
theorem l_W_1225 : jwLd code 1225 1 := ⟨by decide +kernel, by decide +kernel, by decide +kernel, by decide +kernel, by decide +kernel⟩
theorem l_W_1231 : jwLd code 1231 2 := ⟨by decide +kernel, by decide +kernel, by decide +kernel, by decide +kernel, by decide +kernel⟩
theorem l_W_1237 : jwLd code 1237 3 := ⟨by decide +kernel, by decide +kernel, by decide +kernel, by decide +kernel, by decide +kernel⟩
theorem l_W_1243 : jwLd code 1243 4 := ⟨by decide +kernel, by decide +kernel, by decide +kernel, by decide +kernel, by decide +kernel⟩
theorem d_W_1249 : decode code 1249 = .ok (.aload_n 3, 1) := by decide +kernel
theorem d_W_1250 : decode code 1250 = .ok (.invokestatic 207, 3) := by decide +kernel
theorem d_W_1253 : decode code 1253 = .ok (.istore 5, 2) := by decide +kernel
theorem d_W_1255 : decode code 1255 = .ok (.aload_n 2, 1) := by decide +kernel
theorem l_W_1256 : jwLd code 1256 1 := ⟨by decide +kernel, by decide +kernel, by decide +kernel, by decide +kernel, by decide +kernel⟩
theorem l_W_1262 : jwLd code 1262 2 := ⟨by decide +kernel, by decide +kernel, by decide +kernel, by decide +kernel, by decide +kernel⟩
theorem l_W_1268 : jwLd code 1268 3 := ⟨by decide +kernel, by decide +kernel, by decide +kernel, by decide +kernel, by decide +kernel⟩
theorem l_W_1274 : jwLd code 1274 4 := ⟨by decide +kernel, by decide +kernel, by decide +kernel, by decide +kernel, by decide +kernel⟩
theorem t_W_1280 : jwTl code 1280 209 15 := ⟨by decide +kernel, by decide +kernel, by decide +kernel, by decide +kernel, by decide +kernel, by decide +kernel, by decide +kernel, by decide +kernel⟩
theorem u_W_1280 : jwTi code 1280 1783 := ⟨by decide +kernel, by decide +kernel, by decide +kernel, by decide +kernel, by decide +kernel, by decide +kernel, by decide +kernel, by decide +kernel⟩
theorem d_W_1316 : decode code 1316 = .ok (.aload_n 1, 1) := by decide +kernel
theorem l_W_1317 : jwLd code 1317 1 := ⟨by decide +kernel, by decide +kernel, by decide +kernel, by decide +kernel, by decide +kernel⟩
theorem l_W_1323 : jwLd code 1323 2 := ⟨by decide +kernel, by decide +kernel, by decide +kernel, by decide +kernel, by decide +kernel⟩
theorem l_W_1329 : jwLd code 1329 3 := ⟨by decide +kernel, by decide +kernel, by decide +kernel, by decide +kernel, by decide +kernel⟩
theorem d_W_1335 : decode code 1335 = .ok (.aload_n 3, 1) := by decide +kernel
theorem d_W_1336 : decode code 1336 = .ok (.invokestatic 210, 3) := by decide +kernel
theorem d_W_1339 : decode code 1339 = .ok (.istore 5, 2) := by decide +kernel
theorem d_W_1341 : decode code 1341 = .ok (.aload_n 2, 1) := by decide +kernel
theorem l_W_1342 : jwLd code 1342 1 := ⟨by decide +kernel, by decide +kernel, by decide +kernel, by decide +kernel, by decide +kernel⟩
theorem l_W_1348 : jwLd code 1348 2 := ⟨by decide +kernel, by decide +kernel, by decide +kernel, by decide +kernel, by decide +kernel⟩
theorem l_W_1354 : jwLd code 1354 3 := ⟨by decide +kernel, by decide +kernel, by decide +kernel, by decide +kernel, by decide +kernel⟩
theorem t_W_1360 : jwTl code 1360 212 15 := ⟨by decide +kernel, by decide +kernel, by decide +kernel, by decide +kernel, by decide +kernel, by decide +kernel, by decide +kernel, by decide +kernel⟩
theorem u_W_1360 : jwTi code 1360 1703 := ⟨by decide +kernel, by decide +kernel, by decide +kernel, by decide +kernel, by decide +kernel, by decide +kernel, by decide +kernel, by decide +kernel⟩
theorem d_W_1396 : decode code 1396 = .ok (.aload_n 1, 1) := by decide +kernel
theorem l_W_1397 : jwLd code 1397 1 := ⟨by decide +kernel, by decide +kernel, by decide +kernel, by decide +kernel, by decide +kernel⟩
theorem l_W_1403 : jwLd code 1403 2 := ⟨by decide +kernel, by decide +kernel, by decide +kernel, by decide +kernel, by decide +kernel⟩
theorem d_W_1409 : decode code 1409 = .ok (.aload_n 3, 1) := by decide +kernel
theorem d_W_1410 : decode code 1410 = .ok (.invokestatic 213, 3) := by decide +kernel
theorem d_W_1413 : decode code 1413 = .ok (.istore 5, 2) := by decide +kernel
theorem d_W_1415 : decode code 1415 = .ok (.aload_n 2, 1) := by decide +kernel
theorem l_W_1416 : jwLd code 1416 1 := ⟨by decide +kernel, by decide +kernel, by decide +kernel, by decide +kernel, by decide +kernel⟩
theorem l_W_1422 : jwLd code 1422 2 := ⟨by decide +kernel, by decide +kernel, by decide +kernel, by decide +kernel, by decide +kernel⟩
theorem t_W_1428 : jwTl code 1428 215 15 := ⟨by decide +kernel, by decide +kernel, by decide +kernel, by decide +kernel, by decide +kernel, by decide +kernel, by decide +kernel, by decide +kernel⟩
theorem u_W_1428 : jwTi code 1428 1635 := ⟨by decide +kernel, by decide +kernel, by decide +kernel, by decide +kernel, by decide +kernel, by decide +kernel, by decide +kernel, by decide +kernel⟩
theorem d_W_1464 : decode code 1464 = .ok (.aload_n 1, 1) := by decide +kernel
theorem l_W_1465 : jwLd code 1465 1 := ⟨by decide +kernel, by decide +kernel, by decide +kernel, by decide +kernel, by decide +kernel⟩
theorem l_W_1471 : jwLd code 1471 2 := ⟨by decide +kernel, by decide +kernel, by decide +kernel, by decide +kernel, by decide +kernel⟩
theorem d_W_1477 : decode code 1477 = .ok (.aload_n 3, 1) := by decide +kernel
theorem d_W_1478 : decode code 1478 = .ok (.invokestatic 216, 3) := by decide +kernel
theorem d_W_1481 : decode code 1481 = .ok (.istore 5, 2) := by decide +kernel
theorem d_W_1483 : decode code 1483 = .ok (.aload_n 2, 1) := by decide +kernel
theorem l_W_1484 : jwLd code 1484 1 := ⟨by decide +kernel, by decide +kernel, by decide +kernel, by decide +kernel, by decide +kernel⟩
theorem l_W_1490 : jwLd code 1490 2 := ⟨by decide +kernel, by decide +kernel, by decide +kernel, by decide +kernel, by decide +kernel⟩
theorem t_W_1496 : jwTl code 1496 218 15 := ⟨by decide +kernel, by decide +kernel, by decide +kernel, by decide +kernel, by decide +kernel, by decide +kernel, by decide +kernel, by decide +kernel⟩
theorem u_W_1496 : jwTi code 1496 1567 := ⟨by decide +kernel, by decide +kernel, by decide +kernel, by decide +kernel, by decide +kernel, by decide +kernel, by decide +kernel, by decide +kernel⟩
theorem d_W_1532 : decode code 1532 = .ok (.aload_n 1, 1) := by decide +kernel
theorem l_W_1533 : jwLd code 1533 1 := ⟨by decide +kernel, by decide +kernel, by decide +kernel, by decide +kernel, by decide +kernel⟩
theorem l_W_1539 : jwLd code 1539 2 := ⟨by decide +kernel, by decide +kernel, by decide +kernel, by decide +kernel, by decide +kernel⟩
theorem l_W_1545 : jwLd code 1545 3 := ⟨by decide +kernel, by decide +kernel, by decide +kernel, by decide +kernel, by decide +kernel⟩
theorem d_W_1551 : decode code 1551 = .ok (.aload_n 3, 1) := by decide +kernel
theorem d_W_1552 : decode code 1552 = .ok (.invokestatic 219, 3) := by decide +kernel
theorem d_W_1555 : decode code 1555 = .ok (.istore 5, 2) := by decide +kernel
theorem d_W_1557 : decode code 1557 = .ok (.aload_n 2, 1) := by decide +kernel
theorem l_W_1558 : jwLd code 1558 1 := ⟨by decide +kernel, by decide +kernel, by decide +kernel, by decide +kernel, by decide +kernel⟩
theorem l_W_1564 : jwLd code 1564 2 := ⟨by decide +kernel, by decide +kernel, by decide +kernel, by decide +kernel, by decide +kernel⟩
theorem l_W_1570 : jwLd code 1570 3 := ⟨by decide +kernel, by decide +kernel, by decide +kernel, by decide +kernel, by decide +kernel⟩
theorem t_W_1576 : jwTl code 1576 221 15 := ⟨by decide +kernel, by decide +kernel, by decide +kernel, by decide +kernel, by decide +kernel, by decide +kernel, by decide +kernel, by decide +kernel⟩
theorem u_W_1576 : jwTi code 1576 1487 := ⟨by decide +kernel, by decide +kernel, by decide +kernel, by decide +kernel, by decide +kernel, by decide +kernel, by decide +kernel, by decide +kernel⟩
theorem d_W_1612 : decode code 1612 = .ok (.aload_n 1, 1) := by decide +kernel
theorem l_W_1613 : jwLd code 1613 1 := ⟨by decide +kernel, by decide +kernel, by decide +kernel, by decide +kernel, by decide +kernel⟩
theorem d_W_1619 : decode code 1619 = .ok (.aload_n 3, 1) := by decide +kernel
theorem d_W_1620 : decode code 1620 = .ok (.invokestatic 222, 3) := by decide +kernel
theorem d_W_1623 : decode code 1623 = .ok (.istore 5, 2) := by decide +kernel
theorem d_W_1625 : decode code 1625 = .ok (.aload_n 2, 1) := by decide +kernel
theorem l_W_1626 : jwLd code 1626 1 := ⟨by decide +kernel, by decide +kernel, by decide +kernel, by decide +kernel, by decide +kernel⟩
theorem t_W_1632 : jwTl code 1632 224 15 := ⟨by decide +kernel, by decide +kernel, by decide +kernel, by decide +kernel, by decide +kernel, by decide +kernel, by decide +kernel, by decide +kernel⟩
theorem u_W_1632 : jwTi code 1632 1431 := ⟨by decide +kernel, by decide +kernel, by decide +kernel, by decide +kernel, by decide +kernel, by decide +kernel, by decide +kernel, by decide +kernel⟩
theorem d_W_1668 : decode code 1668 = .ok (.aload_n 1, 1) := by decide +kernel
theorem l_W_1669 : jwLd code 1669 1 := ⟨by decide +kernel, by decide +kernel, by decide +kernel, by decide +kernel, by decide +kernel⟩
theorem d_W_1675 : decode code 1675 = .ok (.aload_n 3, 1) := by decide +kernel
theorem d_W_1676 : decode code 1676 = .ok (.invokestatic 225, 3) := by decide +kernel
theorem d_W_1679 : decode code 1679 = .ok (.istore 5, 2) := by decide +kernel
theorem d_W_1681 : decode code 1681 = .ok (.aload_n 2, 1) := by decide +kernel
theorem l_W_1682 : jwLd code 1682 1 := ⟨by decide +kernel, by decide +kernel, by decide +kernel, by decide +kernel, by decide +kernel⟩
theorem t_W_1688 : jwTl code 1688 227 15 := ⟨by decide +kernel, by decide +kernel, by decide +kernel, by decide +kernel, by decide +kernel, by decide +kernel, by decide +kernel, by decide +kernel⟩
theorem u_W_1688 : jwTi code 1688 1375 := ⟨by decide +kernel, by decide +kernel, by decide +kernel, by decide +kernel, by decide +kernel, by decide +kernel, by decide +kernel, by decide +kernel⟩
theorem d_W_1724 : decode code 1724 = .ok (.aload_n 1, 1) := by decide +kernel
theorem l_W_1725 : jwLd code 1725 1 := ⟨by decide +kernel, by decide +kernel, by decide +kernel, by decide +kernel, by decide +kernel⟩
theorem l_W_1731 : jwLd code 1731 2 := ⟨by decide +kernel, by decide +kernel, by decide +kernel, by decide +kernel, by decide +kernel⟩
theorem d_W_1737 : decode code 1737 = .ok (.aload_n 3, 1) := by decide +kernel
theorem d_W_1738 : decode code 1738 = .ok (.invokestatic 228, 3) := by decide +kernel
theorem d_W_1741 : decode code 1741 = .ok (.istore 5, 2) := by decide +kernel
theorem d_W_1743 : decode code 1743 = .ok (.aload_n 2, 1) := by decide +kernel
theorem l_W_1744 : jwLd code 1744 1 := ⟨by decide +kernel, by decide +kernel, by decide +kernel, by decide +kernel, by decide +kernel⟩
theorem l_W_1750 : jwLd code 1750 2 := ⟨by decide +kernel, by decide +kernel, by decide +kernel, by decide +kernel, by decide +kernel⟩
theorem t_W_1756 : jwTl code 1756 230 22 := ⟨by decide +kernel, by decide +kernel, by decide +kernel, by decide +kernel, by decide +kernel, by decide +kernel, by decide +kernel, by decide +kernel⟩
theorem u_W_1756 : jwTb code 1756 1300 := ⟨by decide +kernel, by decide +kernel, by decide +kernel, by decide +kernel, by decide +kernel, by decide +kernel, by decide +kernel, by decide +kernel, by decide +kernel, by decide +kernel, by decide +kernel⟩
theorem d_W_1799 : decode code 1799 = .ok (.aload_n 1, 1) := by decide +kernel
theorem l_W_1800 : jwLd code 1800 1 := ⟨by decide +kernel, by decide +kernel, by decide +kernel, by decide +kernel, by decide +kernel⟩
theorem l_W_1806 : jwLd code 1806 2 := ⟨by decide +kernel, by decide +kernel, by decide +kernel, by decide +kernel, by decide +kernel⟩
theorem d_W_1812 : decode code 1812 = .ok (.aload_n 3, 1) := by decide +kernel
theorem d_W_1813 : decode code 1813 = .ok (.invokestatic 231, 3) := by decide +kernel
theorem d_W_1816 : decode code 1816 = .ok (.istore 5, 2) := by decide +kernel
theorem d_W_1818 : decode code 1818 = .ok (.aload_n 2, 1) := by decide +kernel
theorem l_W_1819 : jwLd code 1819 1 := ⟨by decide +kernel, by decide +kernel, by decide +kernel, by decide +kernel, by decide +kernel⟩
theorem l_W_1825 : jwLd code 1825 2 := ⟨by decide +kernel, by decide +kernel, by decide +kernel, by decide +kernel, by decide +kernel⟩
theorem t_W_1831 : jwTl code 1831 233 15 := ⟨by decide +kernel, by decide +kernel, by decide +kernel, by decide +kernel, by decide +kernel, by decide +kernel, by decide +kernel, by decide +kernel⟩
theorem u_W_1831 : jwTi code 1831 1232 := ⟨by decide +kernel, by decide +kernel, by decide +kernel, by decide +kernel, by decide +kernel, by decide +kernel, by decide +kernel, by decide +kernel⟩
theorem d_W_1867 : decode code 1867 = .ok (.aload_n 1, 1) := by decide +kernel
theorem l_W_1868 : jwLd code 1868 1 := ⟨by decide +kernel, by decide +kernel, by decide +kernel, by decide +kernel, by decide +kernel⟩
theorem d_W_1874 : decode code 1874 = .ok (.aload_n 3, 1) := by decide +kernel
theorem d_W_1875 : decode code 1875 = .ok (.invokestatic 234, 3) := by decide +kernel
theorem d_W_1878 : decode code 1878 = .ok (.istore 5, 2) := by decide +kernel
theorem d_W_1880 : decode code 1880 = .ok (.aload_n 2, 1) := by decide +kernel
theorem l_W_1881 : jwLd code 1881 1 := ⟨by decide +kernel, by decide +kernel, by decide +kernel, by decide +kernel, by decide +kernel⟩
theorem t_W_1887 : jwTl code 1887 236 15 := ⟨by decide +kernel, by decide +kernel, by decide +kernel, by decide +kernel, by decide +kernel, by decide +kernel, by decide +kernel, by decide +kernel⟩
theorem u_W_1887 : jwTi code 1887 1176 := ⟨by decide +kernel, by decide +kernel, by decide +kernel, by decide +kernel, by decide +kernel, by decide +kernel, by decide +kernel, by decide +kernel⟩
theorem d_W_1923 : decode code 1923 = .ok (.aload_n 1, 1) := by decide +kernel
theorem l_W_1924 : jwLd code 1924 1 := ⟨by decide +kernel, by decide +kernel, by decide +kernel, by decide +kernel, by decide +kernel⟩
theorem d_W_1930 : decode code 1930 = .ok (.aload_n 3, 1) := by decide +kernel
theorem d_W_1931 : decode code 1931 = .ok (.invokestatic 237, 3) := by decide +kernel
theorem d_W_1934 : decode code 1934 = .ok (.istore 5, 2) := by decide +kernel
theorem d_W_1936 : decode code 1936 = .ok (.aload_n 2, 1) := by decide +kernel
theorem l_W_1937 : jwLd code 1937 1 := ⟨by decide +kernel, by decide +kernel, by decide +kernel, by decide +kernel, by decide +kernel⟩
theorem t_W_1943 : jwTl code 1943 239 15 := ⟨by decide +kernel, by decide +kernel, by decide +kernel, by decide +kernel, by decide +kernel, by decide +kernel, by decide +kernel, by decide +kernel⟩
theorem u_W_1943 : jwTi code 1943 1120 := ⟨by decide +kernel, by decide +kernel, by decide +kernel, by decide +kernel, by decide +kernel, by decide +kernel, by decide +kernel, by decide +kernel⟩
theorem d_W_1979 : decode code 1979 = .ok (.aload_n 1, 1) := by decide +kernel
theorem l_W_1980 : jwLd code 1980 1 := ⟨by decide +kernel, by decide +kernel, by decide +kernel, by decide +kernel, by decide +kernel⟩
theorem l_W_1986 : jwLd code 1986 2 := ⟨by decide +kernel, by decide +kernel, by decide +kernel, by decide +kernel, by decide +kernel⟩
theorem d_W_1992 : decode code 1992 = .ok (.aload_n 3, 1) := by decide +kernel
theorem d_W_1993 : decode code 1993 = .ok (.invokestatic 240, 3) := by decide +kernel
theorem d_W_1996 : decode code 1996 = .ok (.istore 5, 2) := by decide +kernel
theorem d_W_1998 : decode code 1998 = .ok (.aload_n 2, 1) := by decide +kernel
theorem l_W_1999 : jwLd code 1999 1 := ⟨by decide +kernel, by decide +kernel, by decide +kernel, by decide +kernel, by decide +kernel⟩
theorem l_W_2005 : jwLd code 2005 2 := ⟨by decide +kernel, by decide +kernel, by decide +kernel, by decide +kernel, by decide +kernel⟩
theorem t_W_2011 : jwTl code 2011 242 15 := ⟨by decide +kernel, by decide +kernel, by decide +kernel, by decide +kernel, by decide +kernel, by decide +kernel, by decide +kernel, by decide +kernel⟩
theorem u_W_2011 : jwTi code 2011 1052 := ⟨by decide +kernel, by decide +kernel, by decide +kernel, by decide +kernel, by decide +kernel, by decide +kernel, by decide +kernel, by decide +kernel⟩
theorem d_W_2047 : decode code 2047 = .ok (.aload_n 1, 1) := by decide +kernel
theorem l_W_2048 : jwLd code 2048 1 := ⟨by decide +kernel, by decide +kernel, by decide +kernel, by decide +kernel, by decide +kernel⟩
theorem d_W_2054 : decode code 2054 = .ok (.aload_n 3, 1) := by decide +kernel
theorem d_W_2055 : decode code 2055 = .ok (.invokestatic 243, 3) := by decide +kernel
theorem d_W_2058 : decode code 2058 = .ok (.istore 5, 2) := by decide +kernel
theorem d_W_2060 : decode code 2060 = .ok (.aload_n 2, 1) := by decide +kernel
theorem l_W_2061 : jwLd code 2061 1 := ⟨by decide +kernel, by decide +kernel, by decide +kernel, by decide +kernel, by decide +kernel⟩
theorem t_W_2067 : jwTl code 2067 245 15 := ⟨by decide +kernel, by decide +kernel, by decide +kernel, by decide +kernel, by decide +kernel, by decide +kernel, by decide +kernel, by decide +kernel⟩
theorem u_W_2067 : jwTi code 2067 996 := ⟨by decide +kernel, by decide +kernel, by decide +kernel, by decide +kernel, by decide +kernel, by decide +kernel, by decide +kernel, by decide +kernel⟩
theorem d_W_2103 : decode code 2103 = .ok (.aload_n 1, 1) := by decide +kernel
theorem l_W_2104 : jwLd code 2104 1 := ⟨by decide +kernel, by decide +kernel, by decide +kernel, by decide +kernel, by decide +kernel⟩
theorem l_W_2110 : jwLd code 2110 2 := ⟨by decide +kernel, by decide +kernel, by decide +kernel, by decide +kernel, by decide +kernel⟩
theorem d_W_2116 : decode code 2116 = .ok (.aload_n 3, 1) := by decide +kernel
