/-! THE LAW, 2.2: its rows (by wip/whole/gen9f.py) -/
theorem dl_1598 : decode code 1598 = .ok (.iconst 1, 1) := by decide +kernel
theorem dl_1599 : decode code 1599 = .ok (.iadd, 1) := by decide +kernel
theorem dl_1600 : decode code 1600 = .ok (.iaload, 1) := by decide +kernel
theorem dl_1601 : decode code 1601 = .ok (.aload_n 3, 1) := by decide +kernel
theorem dl_1602 : decode code 1602 = .ok (.invokestatic 241, 3) := by decide +kernel
theorem dl_1605 : decode code 1605 = .ok (.istore 5, 2) := by decide +kernel
theorem dl_1607 : decode code 1607 = .ok (.aload_n 2, 1) := by decide +kernel
theorem dl_1608 : decode code 1608 = .ok (.aload_n 0, 1) := by decide +kernel
theorem dl_1609 : decode code 1609 = .ok (.iload 4, 2) := by decide +kernel
theorem dl_1611 : decode code 1611 = .ok (.iconst 1, 1) := by decide +kernel
theorem dl_1612 : decode code 1612 = .ok (.iadd, 1) := by decide +kernel
theorem dl_1613 : decode code 1613 = .ok (.iaload, 1) := by decide +kernel
theorem dl_1614 : decode code 1614 = .ok (.invokevirtual 243, 3) := by decide +kernel
theorem dl_1617 : decode code 1617 = .ok (.istore 6, 2) := by decide +kernel
theorem dl_1619 : decode code 1619 = .ok (.aload_n 2, 1) := by decide +kernel
theorem dl_1620 : decode code 1620 = .ok (.invokevirtual 176, 3) := by decide +kernel
theorem dl_1623 : decode code 1623 = .ok (.iload 5, 2) := by decide +kernel
theorem dl_1625 : decode code 1625 = .ok (.if_icmp .eq (5), 3) := by decide +kernel
theorem dl_1630 : decode code 1630 = .ok (.iload 5, 2) := by decide +kernel
theorem dl_1632 : decode code 1632 = .ok (.ifCond .ne (22), 3) := by decide +kernel
theorem dl_1635 : decode code 1635 = .ok (.aload_n 3, 1) := by decide +kernel
theorem dl_1636 : decode code 1636 = .ok (.iconst 0, 1) := by decide +kernel
theorem dl_1637 : decode code 1637 = .ok (.laload, 1) := by decide +kernel
theorem dl_1638 : decode code 1638 = .ok (.iload 6, 2) := by decide +kernel
theorem dl_1640 : decode code 1640 = .ok (.ifCond .eq (7), 3) := by decide +kernel
theorem dl_1643 : decode code 1643 = .ok (.lconst 1, 1) := by decide +kernel
theorem dl_1644 : decode code 1644 = .ok (.goto (4), 3) := by decide +kernel
theorem dl_1647 : decode code 1647 = .ok (.lconst 0, 1) := by decide +kernel
theorem dl_1648 : decode code 1648 = .ok (.lcmp, 1) := by decide +kernel
theorem dl_1649 : decode code 1649 = .ok (.ifCond .eq (5), 3) := by decide +kernel
theorem dl_1654 : decode code 1654 = .ok (.goto (1371), 3) := by decide +kernel
theorem dl_1657 : decode code 1657 = .ok (.aload_n 1, 1) := by decide +kernel
theorem dl_1658 : decode code 1658 = .ok (.aload_n 0, 1) := by decide +kernel
theorem dl_1659 : decode code 1659 = .ok (.iload 4, 2) := by decide +kernel
theorem dl_1661 : decode code 1661 = .ok (.iconst 1, 1) := by decide +kernel
theorem dl_1662 : decode code 1662 = .ok (.iadd, 1) := by decide +kernel
theorem dl_1663 : decode code 1663 = .ok (.iaload, 1) := by decide +kernel
theorem dl_1664 : decode code 1664 = .ok (.aload_n 0, 1) := by decide +kernel
theorem dl_1665 : decode code 1665 = .ok (.iload 4, 2) := by decide +kernel
theorem dl_1667 : decode code 1667 = .ok (.iconst 2, 1) := by decide +kernel
theorem dl_1668 : decode code 1668 = .ok (.iadd, 1) := by decide +kernel
theorem dl_1669 : decode code 1669 = .ok (.iaload, 1) := by decide +kernel
theorem dl_1670 : decode code 1670 = .ok (.ifCond .eq (7), 3) := by decide +kernel
theorem dl_1673 : decode code 1673 = .ok (.iconst 1, 1) := by decide +kernel
theorem dl_1674 : decode code 1674 = .ok (.goto (4), 3) := by decide +kernel
theorem dl_1677 : decode code 1677 = .ok (.iconst 0, 1) := by decide +kernel
theorem dl_1678 : decode code 1678 = .ok (.aload_n 3, 1) := by decide +kernel
theorem dl_1679 : decode code 1679 = .ok (.invokestatic 244, 3) := by decide +kernel
theorem dl_1682 : decode code 1682 = .ok (.istore 5, 2) := by decide +kernel
theorem dl_1684 : decode code 1684 = .ok (.aload_n 2, 1) := by decide +kernel
theorem dl_1685 : decode code 1685 = .ok (.aload_n 0, 1) := by decide +kernel
theorem dl_1686 : decode code 1686 = .ok (.iload 4, 2) := by decide +kernel
theorem dl_1688 : decode code 1688 = .ok (.iconst 1, 1) := by decide +kernel
theorem dl_1689 : decode code 1689 = .ok (.iadd, 1) := by decide +kernel
theorem dl_1690 : decode code 1690 = .ok (.iaload, 1) := by decide +kernel
theorem dl_1691 : decode code 1691 = .ok (.aload_n 0, 1) := by decide +kernel
theorem dl_1692 : decode code 1692 = .ok (.iload 4, 2) := by decide +kernel
theorem dl_1694 : decode code 1694 = .ok (.iconst 2, 1) := by decide +kernel
theorem dl_1695 : decode code 1695 = .ok (.iadd, 1) := by decide +kernel
theorem dl_1696 : decode code 1696 = .ok (.iaload, 1) := by decide +kernel
theorem dl_1697 : decode code 1697 = .ok (.ifCond .eq (7), 3) := by decide +kernel
theorem dl_1700 : decode code 1700 = .ok (.iconst 1, 1) := by decide +kernel
theorem dl_1701 : decode code 1701 = .ok (.goto (4), 3) := by decide +kernel
theorem dl_1704 : decode code 1704 = .ok (.iconst 0, 1) := by decide +kernel
theorem dl_1705 : decode code 1705 = .ok (.invokevirtual 246, 3) := by decide +kernel
theorem dl_1708 : decode code 1708 = .ok (.istore 6, 2) := by decide +kernel
theorem dl_1710 : decode code 1710 = .ok (.aload_n 2, 1) := by decide +kernel
theorem dl_1711 : decode code 1711 = .ok (.invokevirtual 176, 3) := by decide +kernel
theorem dl_1714 : decode code 1714 = .ok (.iload 5, 2) := by decide +kernel
theorem dl_1716 : decode code 1716 = .ok (.if_icmp .eq (5), 3) := by decide +kernel
theorem dl_1721 : decode code 1721 = .ok (.iload 5, 2) := by decide +kernel
theorem dl_1723 : decode code 1723 = .ok (.ifCond .ne (22), 3) := by decide +kernel
theorem dl_1726 : decode code 1726 = .ok (.aload_n 3, 1) := by decide +kernel
theorem dl_1727 : decode code 1727 = .ok (.iconst 0, 1) := by decide +kernel
theorem dl_1728 : decode code 1728 = .ok (.laload, 1) := by decide +kernel
theorem dl_1729 : decode code 1729 = .ok (.iload 6, 2) := by decide +kernel
theorem dl_1731 : decode code 1731 = .ok (.ifCond .eq (7), 3) := by decide +kernel
theorem dl_1734 : decode code 1734 = .ok (.lconst 1, 1) := by decide +kernel
theorem dl_1735 : decode code 1735 = .ok (.goto (4), 3) := by decide +kernel
theorem dl_1738 : decode code 1738 = .ok (.lconst 0, 1) := by decide +kernel
theorem dl_1739 : decode code 1739 = .ok (.lcmp, 1) := by decide +kernel
theorem dl_1740 : decode code 1740 = .ok (.ifCond .eq (5), 3) := by decide +kernel
theorem dl_1745 : decode code 1745 = .ok (.goto (1280), 3) := by decide +kernel
theorem dl_1748 : decode code 1748 = .ok (.aload_n 1, 1) := by decide +kernel
theorem dl_1749 : decode code 1749 = .ok (.aload_n 0, 1) := by decide +kernel
theorem dl_1750 : decode code 1750 = .ok (.iload 4, 2) := by decide +kernel
theorem dl_1752 : decode code 1752 = .ok (.iconst 1, 1) := by decide +kernel
theorem dl_1753 : decode code 1753 = .ok (.iadd, 1) := by decide +kernel
theorem dl_1754 : decode code 1754 = .ok (.iaload, 1) := by decide +kernel
theorem dl_1755 : decode code 1755 = .ok (.aload_n 3, 1) := by decide +kernel
theorem dl_1756 : decode code 1756 = .ok (.invokestatic 247, 3) := by decide +kernel
theorem dl_1759 : decode code 1759 = .ok (.istore 5, 2) := by decide +kernel
theorem dl_1761 : decode code 1761 = .ok (.aload_n 2, 1) := by decide +kernel
theorem dl_1762 : decode code 1762 = .ok (.aload_n 0, 1) := by decide +kernel
theorem dl_1763 : decode code 1763 = .ok (.iload 4, 2) := by decide +kernel
theorem dl_1765 : decode code 1765 = .ok (.iconst 1, 1) := by decide +kernel
theorem dl_1766 : decode code 1766 = .ok (.iadd, 1) := by decide +kernel
theorem dl_1767 : decode code 1767 = .ok (.iaload, 1) := by decide +kernel
theorem dl_1768 : decode code 1768 = .ok (.invokevirtual 249, 3) := by decide +kernel
theorem dl_1771 : decode code 1771 = .ok (.istore 6, 2) := by decide +kernel
theorem dl_1773 : decode code 1773 = .ok (.aload_n 2, 1) := by decide +kernel
theorem dl_1774 : decode code 1774 = .ok (.invokevirtual 176, 3) := by decide +kernel
theorem dl_1777 : decode code 1777 = .ok (.iload 5, 2) := by decide +kernel
theorem dl_1779 : decode code 1779 = .ok (.if_icmp .eq (5), 3) := by decide +kernel
theorem dl_1784 : decode code 1784 = .ok (.iload 5, 2) := by decide +kernel
theorem dl_1786 : decode code 1786 = .ok (.ifCond .ne (15), 3) := by decide +kernel
theorem dl_1789 : decode code 1789 = .ok (.aload_n 3, 1) := by decide +kernel
theorem dl_1790 : decode code 1790 = .ok (.iconst 0, 1) := by decide +kernel
theorem dl_1791 : decode code 1791 = .ok (.laload, 1) := by decide +kernel
theorem dl_1792 : decode code 1792 = .ok (.iload 6, 2) := by decide +kernel
theorem dl_1794 : decode code 1794 = .ok (.i2l, 1) := by decide +kernel
theorem dl_1795 : decode code 1795 = .ok (.lcmp, 1) := by decide +kernel
theorem dl_1796 : decode code 1796 = .ok (.ifCond .eq (5), 3) := by decide +kernel
theorem dl_1801 : decode code 1801 = .ok (.goto (1224), 3) := by decide +kernel
theorem dl_1804 : decode code 1804 = .ok (.aload_n 1, 1) := by decide +kernel
theorem dl_1805 : decode code 1805 = .ok (.aload_n 0, 1) := by decide +kernel
theorem dl_1806 : decode code 1806 = .ok (.iload 4, 2) := by decide +kernel
theorem dl_1808 : decode code 1808 = .ok (.iconst 1, 1) := by decide +kernel
theorem dl_1809 : decode code 1809 = .ok (.iadd, 1) := by decide +kernel
theorem dl_1810 : decode code 1810 = .ok (.iaload, 1) := by decide +kernel
theorem dl_1811 : decode code 1811 = .ok (.aload_n 3, 1) := by decide +kernel
theorem dl_1812 : decode code 1812 = .ok (.invokestatic 250, 3) := by decide +kernel
theorem dl_1815 : decode code 1815 = .ok (.istore 5, 2) := by decide +kernel
theorem dl_1817 : decode code 1817 = .ok (.aload_n 2, 1) := by decide +kernel
theorem dl_1818 : decode code 1818 = .ok (.aload_n 0, 1) := by decide +kernel
theorem dl_1819 : decode code 1819 = .ok (.iload 4, 2) := by decide +kernel
theorem dl_1821 : decode code 1821 = .ok (.iconst 1, 1) := by decide +kernel
theorem dl_1822 : decode code 1822 = .ok (.iadd, 1) := by decide +kernel
theorem dl_1823 : decode code 1823 = .ok (.iaload, 1) := by decide +kernel
theorem dl_1824 : decode code 1824 = .ok (.invokevirtual 252, 3) := by decide +kernel
theorem dl_1827 : decode code 1827 = .ok (.istore 6, 2) := by decide +kernel
theorem dl_1829 : decode code 1829 = .ok (.aload_n 2, 1) := by decide +kernel
theorem dl_1830 : decode code 1830 = .ok (.invokevirtual 176, 3) := by decide +kernel
theorem dl_1833 : decode code 1833 = .ok (.iload 5, 2) := by decide +kernel
theorem dl_1835 : decode code 1835 = .ok (.if_icmp .eq (5), 3) := by decide +kernel
theorem dl_1840 : decode code 1840 = .ok (.iload 5, 2) := by decide +kernel
theorem dl_1842 : decode code 1842 = .ok (.ifCond .ne (15), 3) := by decide +kernel
theorem dl_1845 : decode code 1845 = .ok (.aload_n 3, 1) := by decide +kernel
theorem dl_1846 : decode code 1846 = .ok (.iconst 0, 1) := by decide +kernel
theorem dl_1847 : decode code 1847 = .ok (.laload, 1) := by decide +kernel
theorem dl_1848 : decode code 1848 = .ok (.iload 6, 2) := by decide +kernel
theorem dl_1850 : decode code 1850 = .ok (.i2l, 1) := by decide +kernel
theorem dl_1851 : decode code 1851 = .ok (.lcmp, 1) := by decide +kernel
theorem dl_1852 : decode code 1852 = .ok (.ifCond .eq (5), 3) := by decide +kernel
theorem dl_1857 : decode code 1857 = .ok (.goto (1168), 3) := by decide +kernel
theorem dl_1860 : decode code 1860 = .ok (.aload_n 1, 1) := by decide +kernel
theorem dl_1861 : decode code 1861 = .ok (.aload_n 0, 1) := by decide +kernel
theorem dl_1862 : decode code 1862 = .ok (.iload 4, 2) := by decide +kernel
theorem dl_1864 : decode code 1864 = .ok (.iconst 1, 1) := by decide +kernel
theorem dl_1865 : decode code 1865 = .ok (.iadd, 1) := by decide +kernel
theorem dl_1866 : decode code 1866 = .ok (.iaload, 1) := by decide +kernel
theorem dl_1867 : decode code 1867 = .ok (.aload_n 3, 1) := by decide +kernel
theorem dl_1868 : decode code 1868 = .ok (.invokestatic 253, 3) := by decide +kernel
theorem dl_1871 : decode code 1871 = .ok (.istore 5, 2) := by decide +kernel
theorem dl_1873 : decode code 1873 = .ok (.aload_n 2, 1) := by decide +kernel
theorem dl_1874 : decode code 1874 = .ok (.aload_n 0, 1) := by decide +kernel
theorem dl_1875 : decode code 1875 = .ok (.iload 4, 2) := by decide +kernel
theorem dl_1877 : decode code 1877 = .ok (.iconst 1, 1) := by decide +kernel
theorem dl_1878 : decode code 1878 = .ok (.iadd, 1) := by decide +kernel
theorem dl_1879 : decode code 1879 = .ok (.iaload, 1) := by decide +kernel
theorem dl_1880 : decode code 1880 = .ok (.invokevirtual 255, 3) := by decide +kernel
theorem dl_1883 : decode code 1883 = .ok (.istore 6, 2) := by decide +kernel
theorem dl_1885 : decode code 1885 = .ok (.aload_n 2, 1) := by decide +kernel
theorem dl_1886 : decode code 1886 = .ok (.invokevirtual 176, 3) := by decide +kernel
theorem dl_1889 : decode code 1889 = .ok (.iload 5, 2) := by decide +kernel
theorem dl_1891 : decode code 1891 = .ok (.if_icmp .eq (5), 3) := by decide +kernel
theorem dl_1896 : decode code 1896 = .ok (.iload 5, 2) := by decide +kernel
theorem dl_1898 : decode code 1898 = .ok (.ifCond .ne (15), 3) := by decide +kernel
theorem dl_1901 : decode code 1901 = .ok (.aload_n 3, 1) := by decide +kernel
theorem dl_1902 : decode code 1902 = .ok (.iconst 0, 1) := by decide +kernel
theorem dl_1903 : decode code 1903 = .ok (.laload, 1) := by decide +kernel
theorem dl_1904 : decode code 1904 = .ok (.iload 6, 2) := by decide +kernel
theorem dl_1906 : decode code 1906 = .ok (.i2l, 1) := by decide +kernel
theorem dl_1907 : decode code 1907 = .ok (.lcmp, 1) := by decide +kernel
theorem dl_1908 : decode code 1908 = .ok (.ifCond .eq (5), 3) := by decide +kernel
theorem dl_1913 : decode code 1913 = .ok (.goto (1112), 3) := by decide +kernel
theorem dl_1916 : decode code 1916 = .ok (.aload_n 1, 1) := by decide +kernel
theorem dl_1917 : decode code 1917 = .ok (.aload_n 0, 1) := by decide +kernel
theorem dl_1918 : decode code 1918 = .ok (.iload 4, 2) := by decide +kernel
theorem dl_1920 : decode code 1920 = .ok (.iconst 1, 1) := by decide +kernel
theorem dl_1921 : decode code 1921 = .ok (.iadd, 1) := by decide +kernel
theorem dl_1922 : decode code 1922 = .ok (.iaload, 1) := by decide +kernel
theorem dl_1923 : decode code 1923 = .ok (.aload_n 3, 1) := by decide +kernel
theorem dl_1924 : decode code 1924 = .ok (.invokestatic 256, 3) := by decide +kernel
theorem dl_1927 : decode code 1927 = .ok (.istore 5, 2) := by decide +kernel
theorem dl_1929 : decode code 1929 = .ok (.aload_n 2, 1) := by decide +kernel
theorem dl_1930 : decode code 1930 = .ok (.aload_n 0, 1) := by decide +kernel
theorem dl_1931 : decode code 1931 = .ok (.iload 4, 2) := by decide +kernel
theorem dl_1933 : decode code 1933 = .ok (.iconst 1, 1) := by decide +kernel
theorem dl_1934 : decode code 1934 = .ok (.iadd, 1) := by decide +kernel
theorem dl_1935 : decode code 1935 = .ok (.iaload, 1) := by decide +kernel
theorem dl_1936 : decode code 1936 = .ok (.invokevirtual 258, 3) := by decide +kernel
theorem dl_1939 : decode code 1939 = .ok (.istore 6, 2) := by decide +kernel
theorem dl_1941 : decode code 1941 = .ok (.aload_n 2, 1) := by decide +kernel
theorem dl_1942 : decode code 1942 = .ok (.invokevirtual 176, 3) := by decide +kernel
theorem dl_1945 : decode code 1945 = .ok (.iload 5, 2) := by decide +kernel
theorem dl_1947 : decode code 1947 = .ok (.if_icmp .eq (5), 3) := by decide +kernel
theorem dl_1952 : decode code 1952 = .ok (.iload 5, 2) := by decide +kernel
theorem dl_1954 : decode code 1954 = .ok (.ifCond .ne (15), 3) := by decide +kernel
theorem dl_1957 : decode code 1957 = .ok (.aload_n 3, 1) := by decide +kernel
theorem dl_1958 : decode code 1958 = .ok (.iconst 0, 1) := by decide +kernel
theorem dl_1959 : decode code 1959 = .ok (.laload, 1) := by decide +kernel
theorem dl_1960 : decode code 1960 = .ok (.iload 6, 2) := by decide +kernel
theorem dl_1962 : decode code 1962 = .ok (.i2l, 1) := by decide +kernel
theorem dl_1963 : decode code 1963 = .ok (.lcmp, 1) := by decide +kernel
theorem dl_1964 : decode code 1964 = .ok (.ifCond .eq (5), 3) := by decide +kernel
theorem dl_1969 : decode code 1969 = .ok (.goto (1056), 3) := by decide +kernel
theorem dl_1972 : decode code 1972 = .ok (.aload_n 1, 1) := by decide +kernel
theorem dl_1973 : decode code 1973 = .ok (.aload_n 0, 1) := by decide +kernel
theorem dl_1974 : decode code 1974 = .ok (.iload 4, 2) := by decide +kernel
theorem dl_1976 : decode code 1976 = .ok (.iconst 1, 1) := by decide +kernel
theorem dl_1977 : decode code 1977 = .ok (.iadd, 1) := by decide +kernel
theorem dl_1978 : decode code 1978 = .ok (.iaload, 1) := by decide +kernel
theorem dl_1979 : decode code 1979 = .ok (.aload_n 3, 1) := by decide +kernel
theorem dl_1980 : decode code 1980 = .ok (.invokestatic 259, 3) := by decide +kernel
theorem dl_1983 : decode code 1983 = .ok (.istore 5, 2) := by decide +kernel
theorem dl_1985 : decode code 1985 = .ok (.aload_n 2, 1) := by decide +kernel
theorem dl_1986 : decode code 1986 = .ok (.aload_n 0, 1) := by decide +kernel
theorem dl_1987 : decode code 1987 = .ok (.iload 4, 2) := by decide +kernel
theorem dl_1989 : decode code 1989 = .ok (.iconst 1, 1) := by decide +kernel
theorem dl_1990 : decode code 1990 = .ok (.iadd, 1) := by decide +kernel
theorem dl_1991 : decode code 1991 = .ok (.iaload, 1) := by decide +kernel
theorem dl_1992 : decode code 1992 = .ok (.invokevirtual 261, 3) := by decide +kernel
theorem dl_1995 : decode code 1995 = .ok (.istore 6, 2) := by decide +kernel
theorem dl_1997 : decode code 1997 = .ok (.aload_n 2, 1) := by decide +kernel
theorem dl_1998 : decode code 1998 = .ok (.invokevirtual 176, 3) := by decide +kernel
theorem dl_2001 : decode code 2001 = .ok (.iload 5, 2) := by decide +kernel
theorem dl_2003 : decode code 2003 = .ok (.if_icmp .eq (5), 3) := by decide +kernel
theorem dl_2008 : decode code 2008 = .ok (.iload 5, 2) := by decide +kernel
theorem dl_2010 : decode code 2010 = .ok (.ifCond .ne (15), 3) := by decide +kernel
theorem dl_2013 : decode code 2013 = .ok (.aload_n 3, 1) := by decide +kernel
theorem dl_2014 : decode code 2014 = .ok (.iconst 0, 1) := by decide +kernel
theorem dl_2015 : decode code 2015 = .ok (.laload, 1) := by decide +kernel
theorem dl_2016 : decode code 2016 = .ok (.iload 6, 2) := by decide +kernel
theorem dl_2018 : decode code 2018 = .ok (.i2l, 1) := by decide +kernel
theorem dl_2019 : decode code 2019 = .ok (.lcmp, 1) := by decide +kernel
theorem dl_2020 : decode code 2020 = .ok (.ifCond .eq (5), 3) := by decide +kernel
theorem dl_2025 : decode code 2025 = .ok (.goto (1000), 3) := by decide +kernel
theorem dl_2028 : decode code 2028 = .ok (.aload_n 1, 1) := by decide +kernel
theorem dl_2029 : decode code 2029 = .ok (.aload_n 0, 1) := by decide +kernel
theorem dl_2030 : decode code 2030 = .ok (.iload 4, 2) := by decide +kernel
theorem dl_2032 : decode code 2032 = .ok (.iconst 1, 1) := by decide +kernel
theorem dl_2033 : decode code 2033 = .ok (.iadd, 1) := by decide +kernel
theorem dl_2034 : decode code 2034 = .ok (.iaload, 1) := by decide +kernel
theorem dl_2035 : decode code 2035 = .ok (.aload_n 3, 1) := by decide +kernel
theorem dl_2036 : decode code 2036 = .ok (.invokestatic 262, 3) := by decide +kernel
theorem dl_2039 : decode code 2039 = .ok (.istore 5, 2) := by decide +kernel
theorem dl_2041 : decode code 2041 = .ok (.aload_n 2, 1) := by decide +kernel
theorem dl_2042 : decode code 2042 = .ok (.aload_n 0, 1) := by decide +kernel
theorem dl_2043 : decode code 2043 = .ok (.iload 4, 2) := by decide +kernel
theorem dl_2045 : decode code 2045 = .ok (.iconst 1, 1) := by decide +kernel
theorem dl_2046 : decode code 2046 = .ok (.iadd, 1) := by decide +kernel
theorem dl_2047 : decode code 2047 = .ok (.iaload, 1) := by decide +kernel
theorem dl_2048 : decode code 2048 = .ok (.invokevirtual 264, 3) := by decide +kernel
theorem dl_2051 : decode code 2051 = .ok (.istore 6, 2) := by decide +kernel
theorem dl_2053 : decode code 2053 = .ok (.aload_n 2, 1) := by decide +kernel
theorem dl_2054 : decode code 2054 = .ok (.invokevirtual 176, 3) := by decide +kernel
theorem dl_2057 : decode code 2057 = .ok (.iload 5, 2) := by decide +kernel
theorem dl_2059 : decode code 2059 = .ok (.if_icmp .eq (5), 3) := by decide +kernel
theorem dl_2064 : decode code 2064 = .ok (.iload 5, 2) := by decide +kernel
theorem dl_2066 : decode code 2066 = .ok (.ifCond .ne (15), 3) := by decide +kernel
theorem dl_2069 : decode code 2069 = .ok (.aload_n 3, 1) := by decide +kernel
theorem dl_2070 : decode code 2070 = .ok (.iconst 0, 1) := by decide +kernel
theorem dl_2071 : decode code 2071 = .ok (.laload, 1) := by decide +kernel
theorem dl_2072 : decode code 2072 = .ok (.iload 6, 2) := by decide +kernel
theorem dl_2074 : decode code 2074 = .ok (.i2l, 1) := by decide +kernel
theorem dl_2075 : decode code 2075 = .ok (.lcmp, 1) := by decide +kernel
theorem dl_2076 : decode code 2076 = .ok (.ifCond .eq (5), 3) := by decide +kernel
theorem dl_2081 : decode code 2081 = .ok (.goto (944), 3) := by decide +kernel
theorem dl_2084 : decode code 2084 = .ok (.aload_n 1, 1) := by decide +kernel
theorem dl_2085 : decode code 2085 = .ok (.aload_n 0, 1) := by decide +kernel
theorem dl_2086 : decode code 2086 = .ok (.iload 4, 2) := by decide +kernel
theorem dl_2088 : decode code 2088 = .ok (.iconst 1, 1) := by decide +kernel
theorem dl_2089 : decode code 2089 = .ok (.iadd, 1) := by decide +kernel
theorem dl_2090 : decode code 2090 = .ok (.iaload, 1) := by decide +kernel
theorem dl_2091 : decode code 2091 = .ok (.aload_n 3, 1) := by decide +kernel
theorem dl_2092 : decode code 2092 = .ok (.invokestatic 265, 3) := by decide +kernel
theorem dl_2095 : decode code 2095 = .ok (.istore 5, 2) := by decide +kernel
theorem dl_2097 : decode code 2097 = .ok (.aload_n 2, 1) := by decide +kernel
theorem dl_2098 : decode code 2098 = .ok (.aload_n 0, 1) := by decide +kernel
theorem dl_2099 : decode code 2099 = .ok (.iload 4, 2) := by decide +kernel
theorem dl_2101 : decode code 2101 = .ok (.iconst 1, 1) := by decide +kernel
theorem dl_2102 : decode code 2102 = .ok (.iadd, 1) := by decide +kernel
theorem dl_2103 : decode code 2103 = .ok (.iaload, 1) := by decide +kernel
theorem dl_2104 : decode code 2104 = .ok (.invokevirtual 267, 3) := by decide +kernel
theorem dl_2107 : decode code 2107 = .ok (.istore 6, 2) := by decide +kernel
theorem dl_2109 : decode code 2109 = .ok (.aload_n 2, 1) := by decide +kernel
theorem dl_2110 : decode code 2110 = .ok (.invokevirtual 176, 3) := by decide +kernel
theorem dl_2113 : decode code 2113 = .ok (.iload 5, 2) := by decide +kernel
theorem dl_2115 : decode code 2115 = .ok (.if_icmp .eq (5), 3) := by decide +kernel
theorem dl_2120 : decode code 2120 = .ok (.iload 5, 2) := by decide +kernel
theorem dl_2122 : decode code 2122 = .ok (.ifCond .ne (15), 3) := by decide +kernel
theorem dl_2125 : decode code 2125 = .ok (.aload_n 3, 1) := by decide +kernel
theorem dl_2126 : decode code 2126 = .ok (.iconst 0, 1) := by decide +kernel
theorem dl_2127 : decode code 2127 = .ok (.laload, 1) := by decide +kernel
theorem dl_2128 : decode code 2128 = .ok (.iload 6, 2) := by decide +kernel
theorem dl_2130 : decode code 2130 = .ok (.i2l, 1) := by decide +kernel
theorem dl_2131 : decode code 2131 = .ok (.lcmp, 1) := by decide +kernel
theorem dl_2132 : decode code 2132 = .ok (.ifCond .eq (5), 3) := by decide +kernel
theorem dl_2137 : decode code 2137 = .ok (.goto (888), 3) := by decide +kernel
theorem dl_2140 : decode code 2140 = .ok (.aload_n 1, 1) := by decide +kernel
theorem dl_2141 : decode code 2141 = .ok (.aload_n 0, 1) := by decide +kernel
theorem dl_2142 : decode code 2142 = .ok (.iload 4, 2) := by decide +kernel
theorem dl_2144 : decode code 2144 = .ok (.iconst 1, 1) := by decide +kernel
theorem dl_2145 : decode code 2145 = .ok (.iadd, 1) := by decide +kernel
theorem dl_2146 : decode code 2146 = .ok (.iaload, 1) := by decide +kernel
theorem dl_2147 : decode code 2147 = .ok (.aload_n 3, 1) := by decide +kernel
theorem dl_2148 : decode code 2148 = .ok (.invokestatic 268, 3) := by decide +kernel
theorem dl_2151 : decode code 2151 = .ok (.istore 5, 2) := by decide +kernel
theorem dl_2153 : decode code 2153 = .ok (.aload_n 2, 1) := by decide +kernel
theorem dl_2154 : decode code 2154 = .ok (.aload_n 0, 1) := by decide +kernel
theorem dl_2155 : decode code 2155 = .ok (.iload 4, 2) := by decide +kernel
theorem dl_2157 : decode code 2157 = .ok (.iconst 1, 1) := by decide +kernel
theorem dl_2158 : decode code 2158 = .ok (.iadd, 1) := by decide +kernel
theorem dl_2159 : decode code 2159 = .ok (.iaload, 1) := by decide +kernel
theorem dl_2160 : decode code 2160 = .ok (.invokevirtual 270, 3) := by decide +kernel
theorem dl_2163 : decode code 2163 = .ok (.istore 6, 2) := by decide +kernel
theorem dl_2165 : decode code 2165 = .ok (.aload_n 2, 1) := by decide +kernel
theorem dl_2166 : decode code 2166 = .ok (.invokevirtual 176, 3) := by decide +kernel
theorem dl_2169 : decode code 2169 = .ok (.iload 5, 2) := by decide +kernel
theorem dl_2171 : decode code 2171 = .ok (.if_icmp .eq (5), 3) := by decide +kernel
theorem dl_2176 : decode code 2176 = .ok (.iload 5, 2) := by decide +kernel
theorem dl_2178 : decode code 2178 = .ok (.ifCond .ne (15), 3) := by decide +kernel
theorem dl_2181 : decode code 2181 = .ok (.aload_n 3, 1) := by decide +kernel
theorem dl_2182 : decode code 2182 = .ok (.iconst 0, 1) := by decide +kernel
theorem dl_2183 : decode code 2183 = .ok (.laload, 1) := by decide +kernel
theorem dl_2184 : decode code 2184 = .ok (.iload 6, 2) := by decide +kernel
theorem dl_2186 : decode code 2186 = .ok (.i2l, 1) := by decide +kernel
theorem dl_2187 : decode code 2187 = .ok (.lcmp, 1) := by decide +kernel
theorem dl_2188 : decode code 2188 = .ok (.ifCond .eq (5), 3) := by decide +kernel
theorem dl_2193 : decode code 2193 = .ok (.goto (832), 3) := by decide +kernel
theorem dl_2196 : decode code 2196 = .ok (.aload_n 1, 1) := by decide +kernel
theorem dl_2197 : decode code 2197 = .ok (.aload_n 0, 1) := by decide +kernel
theorem dl_2198 : decode code 2198 = .ok (.iload 4, 2) := by decide +kernel
theorem dl_2200 : decode code 2200 = .ok (.iconst 1, 1) := by decide +kernel
theorem dl_2201 : decode code 2201 = .ok (.iadd, 1) := by decide +kernel
theorem dl_2202 : decode code 2202 = .ok (.iaload, 1) := by decide +kernel
theorem dl_2203 : decode code 2203 = .ok (.aload_n 3, 1) := by decide +kernel
theorem dl_2204 : decode code 2204 = .ok (.invokestatic 271, 3) := by decide +kernel
theorem dl_2207 : decode code 2207 = .ok (.istore 5, 2) := by decide +kernel
theorem dl_2209 : decode code 2209 = .ok (.aload_n 2, 1) := by decide +kernel
theorem dl_2210 : decode code 2210 = .ok (.aload_n 0, 1) := by decide +kernel
theorem dl_2211 : decode code 2211 = .ok (.iload 4, 2) := by decide +kernel
theorem dl_2213 : decode code 2213 = .ok (.iconst 1, 1) := by decide +kernel
theorem dl_2214 : decode code 2214 = .ok (.iadd, 1) := by decide +kernel
theorem dl_2215 : decode code 2215 = .ok (.iaload, 1) := by decide +kernel
theorem dl_2216 : decode code 2216 = .ok (.invokevirtual 273, 3) := by decide +kernel
theorem dl_2219 : decode code 2219 = .ok (.istore 6, 2) := by decide +kernel
theorem dl_2221 : decode code 2221 = .ok (.aload_n 2, 1) := by decide +kernel
theorem dl_2222 : decode code 2222 = .ok (.invokevirtual 176, 3) := by decide +kernel
theorem dl_2225 : decode code 2225 = .ok (.iload 5, 2) := by decide +kernel
theorem dl_2227 : decode code 2227 = .ok (.if_icmp .eq (5), 3) := by decide +kernel
theorem dl_2232 : decode code 2232 = .ok (.iload 5, 2) := by decide +kernel
theorem dl_2234 : decode code 2234 = .ok (.ifCond .ne (15), 3) := by decide +kernel
theorem dl_2237 : decode code 2237 = .ok (.aload_n 3, 1) := by decide +kernel
theorem dl_2238 : decode code 2238 = .ok (.iconst 0, 1) := by decide +kernel
theorem dl_2239 : decode code 2239 = .ok (.laload, 1) := by decide +kernel
theorem dl_2240 : decode code 2240 = .ok (.iload 6, 2) := by decide +kernel
theorem dl_2242 : decode code 2242 = .ok (.i2l, 1) := by decide +kernel
theorem dl_2243 : decode code 2243 = .ok (.lcmp, 1) := by decide +kernel
theorem dl_2244 : decode code 2244 = .ok (.ifCond .eq (5), 3) := by decide +kernel
theorem dl_2249 : decode code 2249 = .ok (.goto (776), 3) := by decide +kernel
theorem dl_2252 : decode code 2252 = .ok (.aload_n 1, 1) := by decide +kernel
theorem dl_2253 : decode code 2253 = .ok (.aload_n 0, 1) := by decide +kernel
theorem dl_2254 : decode code 2254 = .ok (.iload 4, 2) := by decide +kernel
theorem dl_2256 : decode code 2256 = .ok (.iconst 1, 1) := by decide +kernel
theorem dl_2257 : decode code 2257 = .ok (.iadd, 1) := by decide +kernel
theorem dl_2258 : decode code 2258 = .ok (.iaload, 1) := by decide +kernel
theorem dl_2259 : decode code 2259 = .ok (.aload_n 3, 1) := by decide +kernel
theorem dl_2260 : decode code 2260 = .ok (.invokestatic 274, 3) := by decide +kernel
theorem dl_2263 : decode code 2263 = .ok (.istore 5, 2) := by decide +kernel
theorem dl_2265 : decode code 2265 = .ok (.aload_n 2, 1) := by decide +kernel
theorem dl_2266 : decode code 2266 = .ok (.aload_n 0, 1) := by decide +kernel
theorem dl_2267 : decode code 2267 = .ok (.iload 4, 2) := by decide +kernel
theorem dl_2269 : decode code 2269 = .ok (.iconst 1, 1) := by decide +kernel
theorem dl_2270 : decode code 2270 = .ok (.iadd, 1) := by decide +kernel
theorem dl_2271 : decode code 2271 = .ok (.iaload, 1) := by decide +kernel
theorem dl_2272 : decode code 2272 = .ok (.invokevirtual 276, 3) := by decide +kernel
theorem dl_2275 : decode code 2275 = .ok (.istore 6, 2) := by decide +kernel
theorem dl_2277 : decode code 2277 = .ok (.aload_n 2, 1) := by decide +kernel
theorem dl_2278 : decode code 2278 = .ok (.invokevirtual 176, 3) := by decide +kernel
theorem dl_2281 : decode code 2281 = .ok (.iload 5, 2) := by decide +kernel
theorem dl_2283 : decode code 2283 = .ok (.if_icmp .eq (5), 3) := by decide +kernel
theorem dl_2288 : decode code 2288 = .ok (.iload 5, 2) := by decide +kernel
theorem dl_2290 : decode code 2290 = .ok (.ifCond .ne (15), 3) := by decide +kernel
theorem dl_2293 : decode code 2293 = .ok (.aload_n 3, 1) := by decide +kernel
theorem dl_2294 : decode code 2294 = .ok (.iconst 0, 1) := by decide +kernel
theorem dl_2295 : decode code 2295 = .ok (.laload, 1) := by decide +kernel
theorem dl_2296 : decode code 2296 = .ok (.iload 6, 2) := by decide +kernel
theorem dl_2298 : decode code 2298 = .ok (.i2l, 1) := by decide +kernel
theorem dl_2299 : decode code 2299 = .ok (.lcmp, 1) := by decide +kernel
theorem dl_2300 : decode code 2300 = .ok (.ifCond .eq (5), 3) := by decide +kernel
theorem dl_2305 : decode code 2305 = .ok (.goto (720), 3) := by decide +kernel
theorem dl_2308 : decode code 2308 = .ok (.aload_n 1, 1) := by decide +kernel
theorem dl_2309 : decode code 2309 = .ok (.aload_n 0, 1) := by decide +kernel
theorem dl_2310 : decode code 2310 = .ok (.iload 4, 2) := by decide +kernel
