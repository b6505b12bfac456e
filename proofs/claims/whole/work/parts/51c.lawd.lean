/-! THE LAW'S WALK, 2.4: the law's instructions -/
theorem dL_law_1726 : decode cL_law 1726 = .ok (.iload 4, 2) := by decide +kernel
theorem dL_law_1728 : decode cL_law 1728 = .ok (.iconst 1, 1) := by decide +kernel
theorem dL_law_1729 : decode cL_law 1729 = .ok (.iadd, 1) := by decide +kernel
theorem dL_law_1730 : decode cL_law 1730 = .ok (.iaload, 1) := by decide +kernel
theorem dL_law_1731 : decode cL_law 1731 = .ok (.aload_n 0, 1) := by decide +kernel
theorem dL_law_1732 : decode cL_law 1732 = .ok (.iload 4, 2) := by decide +kernel
theorem dL_law_1734 : decode cL_law 1734 = .ok (.iconst 2, 1) := by decide +kernel
theorem dL_law_1735 : decode cL_law 1735 = .ok (.iadd, 1) := by decide +kernel
theorem dL_law_1736 : decode cL_law 1736 = .ok (.iaload, 1) := by decide +kernel
theorem dL_law_1737 : decode cL_law 1737 = .ok (.aload_n 0, 1) := by decide +kernel
theorem dL_law_1738 : decode cL_law 1738 = .ok (.iload 4, 2) := by decide +kernel
theorem dL_law_1740 : decode cL_law 1740 = .ok (.iconst 3, 1) := by decide +kernel
theorem dL_law_1741 : decode cL_law 1741 = .ok (.iadd, 1) := by decide +kernel
theorem dL_law_1742 : decode cL_law 1742 = .ok (.iaload, 1) := by decide +kernel
theorem dL_law_1743 : decode cL_law 1743 = .ok (.aload_n 0, 1) := by decide +kernel
theorem dL_law_1744 : decode cL_law 1744 = .ok (.iload 4, 2) := by decide +kernel
theorem dL_law_1746 : decode cL_law 1746 = .ok (.iconst 4, 1) := by decide +kernel
theorem dL_law_1747 : decode cL_law 1747 = .ok (.iadd, 1) := by decide +kernel
theorem dL_law_1748 : decode cL_law 1748 = .ok (.iaload, 1) := by decide +kernel
theorem dL_law_1749 : decode cL_law 1749 = .ok (.aload_n 3, 1) := by decide +kernel
theorem dL_law_1750 : decode cL_law 1750 = .ok (.invokestatic 219, 3) := by decide +kernel
theorem dL_law_1753 : decode cL_law 1753 = .ok (.istore 5, 2) := by decide +kernel
theorem dL_law_1755 : decode cL_law 1755 = .ok (.aload_n 2, 1) := by decide +kernel
theorem dL_law_1756 : decode cL_law 1756 = .ok (.aload_n 0, 1) := by decide +kernel
theorem dL_law_1757 : decode cL_law 1757 = .ok (.iload 4, 2) := by decide +kernel
theorem dL_law_1759 : decode cL_law 1759 = .ok (.iconst 1, 1) := by decide +kernel
theorem dL_law_1760 : decode cL_law 1760 = .ok (.iadd, 1) := by decide +kernel
theorem dL_law_1761 : decode cL_law 1761 = .ok (.iaload, 1) := by decide +kernel
theorem dL_law_1762 : decode cL_law 1762 = .ok (.aload_n 0, 1) := by decide +kernel
theorem dL_law_1763 : decode cL_law 1763 = .ok (.iload 4, 2) := by decide +kernel
theorem dL_law_1765 : decode cL_law 1765 = .ok (.iconst 2, 1) := by decide +kernel
theorem dL_law_1766 : decode cL_law 1766 = .ok (.iadd, 1) := by decide +kernel
theorem dL_law_1767 : decode cL_law 1767 = .ok (.iaload, 1) := by decide +kernel
theorem dL_law_1768 : decode cL_law 1768 = .ok (.aload_n 0, 1) := by decide +kernel
theorem dL_law_1769 : decode cL_law 1769 = .ok (.iload 4, 2) := by decide +kernel
theorem dL_law_1771 : decode cL_law 1771 = .ok (.iconst 3, 1) := by decide +kernel
theorem dL_law_1772 : decode cL_law 1772 = .ok (.iadd, 1) := by decide +kernel
theorem dL_law_1773 : decode cL_law 1773 = .ok (.iaload, 1) := by decide +kernel
theorem dL_law_1774 : decode cL_law 1774 = .ok (.aload_n 0, 1) := by decide +kernel
theorem dL_law_1775 : decode cL_law 1775 = .ok (.iload 4, 2) := by decide +kernel
theorem dL_law_1777 : decode cL_law 1777 = .ok (.iconst 4, 1) := by decide +kernel
theorem dL_law_1778 : decode cL_law 1778 = .ok (.iadd, 1) := by decide +kernel
theorem dL_law_1779 : decode cL_law 1779 = .ok (.iaload, 1) := by decide +kernel
theorem dL_law_1780 : decode cL_law 1780 = .ok (.invokevirtual 221, 3) := by decide +kernel
theorem dL_law_1783 : decode cL_law 1783 = .ok (.istore 6, 2) := by decide +kernel
theorem dL_law_1785 : decode cL_law 1785 = .ok (.aload_n 2, 1) := by decide +kernel
theorem dL_law_1786 : decode cL_law 1786 = .ok (.invokevirtual 140, 3) := by decide +kernel
theorem dL_law_1789 : decode cL_law 1789 = .ok (.iload 5, 2) := by decide +kernel
theorem dL_law_1791 : decode cL_law 1791 = .ok (.if_icmp .eq 5, 3) := by decide +kernel
theorem dL_law_1794 : decode cL_law 1794 = .ok (.iconst 0, 1) := by decide +kernel
theorem dL_law_1795 : decode cL_law 1795 = .ok (.ireturn, 1) := by decide +kernel
theorem dL_law_1796 : decode cL_law 1796 = .ok (.iload 5, 2) := by decide +kernel
theorem dL_law_1798 : decode cL_law 1798 = .ok (.ifCond .ne 15, 3) := by decide +kernel
theorem dL_law_1801 : decode cL_law 1801 = .ok (.aload_n 3, 1) := by decide +kernel
theorem dL_law_1802 : decode cL_law 1802 = .ok (.iconst 0, 1) := by decide +kernel
theorem dL_law_1803 : decode cL_law 1803 = .ok (.laload, 1) := by decide +kernel
theorem dL_law_1804 : decode cL_law 1804 = .ok (.iload 6, 2) := by decide +kernel
theorem dL_law_1806 : decode cL_law 1806 = .ok (.i2l, 1) := by decide +kernel
theorem dL_law_1807 : decode cL_law 1807 = .ok (.lcmp, 1) := by decide +kernel
theorem dL_law_1808 : decode cL_law 1808 = .ok (.ifCond .eq 5, 3) := by decide +kernel
theorem dL_law_1811 : decode cL_law 1811 = .ok (.iconst 0, 1) := by decide +kernel
theorem dL_law_1812 : decode cL_law 1812 = .ok (.ireturn, 1) := by decide +kernel
theorem dL_law_1813 : decode cL_law 1813 = .ok (.goto 872, 3) := by decide +kernel
theorem dL_law_1816 : decode cL_law 1816 = .ok (.aload_n 1, 1) := by decide +kernel
theorem dL_law_1817 : decode cL_law 1817 = .ok (.aload_n 0, 1) := by decide +kernel
theorem dL_law_1818 : decode cL_law 1818 = .ok (.iload 4, 2) := by decide +kernel
theorem dL_law_1820 : decode cL_law 1820 = .ok (.iconst 1, 1) := by decide +kernel
theorem dL_law_1821 : decode cL_law 1821 = .ok (.iadd, 1) := by decide +kernel
theorem dL_law_1822 : decode cL_law 1822 = .ok (.iaload, 1) := by decide +kernel
theorem dL_law_1823 : decode cL_law 1823 = .ok (.aload_n 3, 1) := by decide +kernel
theorem dL_law_1824 : decode cL_law 1824 = .ok (.invokestatic 222, 3) := by decide +kernel
theorem dL_law_1827 : decode cL_law 1827 = .ok (.istore 5, 2) := by decide +kernel
theorem dL_law_1829 : decode cL_law 1829 = .ok (.aload_n 2, 1) := by decide +kernel
theorem dL_law_1830 : decode cL_law 1830 = .ok (.aload_n 0, 1) := by decide +kernel
theorem dL_law_1831 : decode cL_law 1831 = .ok (.iload 4, 2) := by decide +kernel
theorem dL_law_1833 : decode cL_law 1833 = .ok (.iconst 1, 1) := by decide +kernel
theorem dL_law_1834 : decode cL_law 1834 = .ok (.iadd, 1) := by decide +kernel
theorem dL_law_1835 : decode cL_law 1835 = .ok (.iaload, 1) := by decide +kernel
theorem dL_law_1836 : decode cL_law 1836 = .ok (.invokevirtual 224, 3) := by decide +kernel
theorem dL_law_1839 : decode cL_law 1839 = .ok (.istore 6, 2) := by decide +kernel
theorem dL_law_1841 : decode cL_law 1841 = .ok (.aload_n 2, 1) := by decide +kernel
theorem dL_law_1842 : decode cL_law 1842 = .ok (.invokevirtual 140, 3) := by decide +kernel
theorem dL_law_1845 : decode cL_law 1845 = .ok (.iload 5, 2) := by decide +kernel
theorem dL_law_1847 : decode cL_law 1847 = .ok (.if_icmp .eq 5, 3) := by decide +kernel
theorem dL_law_1850 : decode cL_law 1850 = .ok (.iconst 0, 1) := by decide +kernel
theorem dL_law_1851 : decode cL_law 1851 = .ok (.ireturn, 1) := by decide +kernel
theorem dL_law_1852 : decode cL_law 1852 = .ok (.iload 5, 2) := by decide +kernel
theorem dL_law_1854 : decode cL_law 1854 = .ok (.ifCond .ne 15, 3) := by decide +kernel
theorem dL_law_1857 : decode cL_law 1857 = .ok (.aload_n 3, 1) := by decide +kernel
theorem dL_law_1858 : decode cL_law 1858 = .ok (.iconst 0, 1) := by decide +kernel
theorem dL_law_1859 : decode cL_law 1859 = .ok (.laload, 1) := by decide +kernel
theorem dL_law_1860 : decode cL_law 1860 = .ok (.iload 6, 2) := by decide +kernel
theorem dL_law_1862 : decode cL_law 1862 = .ok (.i2l, 1) := by decide +kernel
theorem dL_law_1863 : decode cL_law 1863 = .ok (.lcmp, 1) := by decide +kernel
theorem dL_law_1864 : decode cL_law 1864 = .ok (.ifCond .eq 5, 3) := by decide +kernel
theorem dL_law_1867 : decode cL_law 1867 = .ok (.iconst 0, 1) := by decide +kernel
theorem dL_law_1868 : decode cL_law 1868 = .ok (.ireturn, 1) := by decide +kernel
theorem dL_law_1869 : decode cL_law 1869 = .ok (.goto 816, 3) := by decide +kernel
theorem dL_law_1872 : decode cL_law 1872 = .ok (.aload_n 1, 1) := by decide +kernel
theorem dL_law_1873 : decode cL_law 1873 = .ok (.aload_n 0, 1) := by decide +kernel
theorem dL_law_1874 : decode cL_law 1874 = .ok (.iload 4, 2) := by decide +kernel
theorem dL_law_1876 : decode cL_law 1876 = .ok (.iconst 1, 1) := by decide +kernel
theorem dL_law_1877 : decode cL_law 1877 = .ok (.iadd, 1) := by decide +kernel
theorem dL_law_1878 : decode cL_law 1878 = .ok (.iaload, 1) := by decide +kernel
theorem dL_law_1879 : decode cL_law 1879 = .ok (.aload_n 0, 1) := by decide +kernel
theorem dL_law_1880 : decode cL_law 1880 = .ok (.iload 4, 2) := by decide +kernel
theorem dL_law_1882 : decode cL_law 1882 = .ok (.iconst 2, 1) := by decide +kernel
theorem dL_law_1883 : decode cL_law 1883 = .ok (.iadd, 1) := by decide +kernel
theorem dL_law_1884 : decode cL_law 1884 = .ok (.iaload, 1) := by decide +kernel
theorem dL_law_1885 : decode cL_law 1885 = .ok (.aload_n 0, 1) := by decide +kernel
theorem dL_law_1886 : decode cL_law 1886 = .ok (.iload 4, 2) := by decide +kernel
theorem dL_law_1888 : decode cL_law 1888 = .ok (.iconst 3, 1) := by decide +kernel
theorem dL_law_1889 : decode cL_law 1889 = .ok (.iadd, 1) := by decide +kernel
theorem dL_law_1890 : decode cL_law 1890 = .ok (.iaload, 1) := by decide +kernel
theorem dL_law_1891 : decode cL_law 1891 = .ok (.aload_n 3, 1) := by decide +kernel
theorem dL_law_1892 : decode cL_law 1892 = .ok (.invokestatic 225, 3) := by decide +kernel
theorem dL_law_1895 : decode cL_law 1895 = .ok (.istore 5, 2) := by decide +kernel
theorem dL_law_1897 : decode cL_law 1897 = .ok (.aload_n 2, 1) := by decide +kernel
theorem dL_law_1898 : decode cL_law 1898 = .ok (.aload_n 0, 1) := by decide +kernel
theorem dL_law_1899 : decode cL_law 1899 = .ok (.iload 4, 2) := by decide +kernel
theorem dL_law_1901 : decode cL_law 1901 = .ok (.iconst 1, 1) := by decide +kernel
theorem dL_law_1902 : decode cL_law 1902 = .ok (.iadd, 1) := by decide +kernel
theorem dL_law_1903 : decode cL_law 1903 = .ok (.iaload, 1) := by decide +kernel
theorem dL_law_1904 : decode cL_law 1904 = .ok (.aload_n 0, 1) := by decide +kernel
theorem dL_law_1905 : decode cL_law 1905 = .ok (.iload 4, 2) := by decide +kernel
theorem dL_law_1907 : decode cL_law 1907 = .ok (.iconst 2, 1) := by decide +kernel
theorem dL_law_1908 : decode cL_law 1908 = .ok (.iadd, 1) := by decide +kernel
theorem dL_law_1909 : decode cL_law 1909 = .ok (.iaload, 1) := by decide +kernel
theorem dL_law_1910 : decode cL_law 1910 = .ok (.aload_n 0, 1) := by decide +kernel
theorem dL_law_1911 : decode cL_law 1911 = .ok (.iload 4, 2) := by decide +kernel
theorem dL_law_1913 : decode cL_law 1913 = .ok (.iconst 3, 1) := by decide +kernel
theorem dL_law_1914 : decode cL_law 1914 = .ok (.iadd, 1) := by decide +kernel
theorem dL_law_1915 : decode cL_law 1915 = .ok (.iaload, 1) := by decide +kernel
theorem dL_law_1916 : decode cL_law 1916 = .ok (.invokevirtual 227, 3) := by decide +kernel
theorem dL_law_1919 : decode cL_law 1919 = .ok (.istore 6, 2) := by decide +kernel
theorem dL_law_1921 : decode cL_law 1921 = .ok (.aload_n 2, 1) := by decide +kernel
theorem dL_law_1922 : decode cL_law 1922 = .ok (.invokevirtual 140, 3) := by decide +kernel
theorem dL_law_1925 : decode cL_law 1925 = .ok (.iload 5, 2) := by decide +kernel
theorem dL_law_1927 : decode cL_law 1927 = .ok (.if_icmp .eq 5, 3) := by decide +kernel
theorem dL_law_1930 : decode cL_law 1930 = .ok (.iconst 0, 1) := by decide +kernel
theorem dL_law_1931 : decode cL_law 1931 = .ok (.ireturn, 1) := by decide +kernel
theorem dL_law_1932 : decode cL_law 1932 = .ok (.iload 5, 2) := by decide +kernel
theorem dL_law_1934 : decode cL_law 1934 = .ok (.ifCond .ne 15, 3) := by decide +kernel
theorem dL_law_1937 : decode cL_law 1937 = .ok (.aload_n 3, 1) := by decide +kernel
theorem dL_law_1938 : decode cL_law 1938 = .ok (.iconst 0, 1) := by decide +kernel
theorem dL_law_1939 : decode cL_law 1939 = .ok (.laload, 1) := by decide +kernel
theorem dL_law_1940 : decode cL_law 1940 = .ok (.iload 6, 2) := by decide +kernel
theorem dL_law_1942 : decode cL_law 1942 = .ok (.i2l, 1) := by decide +kernel
theorem dL_law_1943 : decode cL_law 1943 = .ok (.lcmp, 1) := by decide +kernel
theorem dL_law_1944 : decode cL_law 1944 = .ok (.ifCond .eq 5, 3) := by decide +kernel
theorem dL_law_1947 : decode cL_law 1947 = .ok (.iconst 0, 1) := by decide +kernel
theorem dL_law_1948 : decode cL_law 1948 = .ok (.ireturn, 1) := by decide +kernel
theorem dL_law_1949 : decode cL_law 1949 = .ok (.goto 736, 3) := by decide +kernel
theorem dL_law_1952 : decode cL_law 1952 = .ok (.aload_n 1, 1) := by decide +kernel
theorem dL_law_1953 : decode cL_law 1953 = .ok (.aload_n 0, 1) := by decide +kernel
theorem dL_law_1954 : decode cL_law 1954 = .ok (.iload 4, 2) := by decide +kernel
theorem dL_law_1956 : decode cL_law 1956 = .ok (.iconst 1, 1) := by decide +kernel
theorem dL_law_1957 : decode cL_law 1957 = .ok (.iadd, 1) := by decide +kernel
theorem dL_law_1958 : decode cL_law 1958 = .ok (.iaload, 1) := by decide +kernel
theorem dL_law_1959 : decode cL_law 1959 = .ok (.aload_n 0, 1) := by decide +kernel
theorem dL_law_1960 : decode cL_law 1960 = .ok (.iload 4, 2) := by decide +kernel
theorem dL_law_1962 : decode cL_law 1962 = .ok (.iconst 2, 1) := by decide +kernel
theorem dL_law_1963 : decode cL_law 1963 = .ok (.iadd, 1) := by decide +kernel
theorem dL_law_1964 : decode cL_law 1964 = .ok (.iaload, 1) := by decide +kernel
theorem dL_law_1965 : decode cL_law 1965 = .ok (.aload_n 3, 1) := by decide +kernel
theorem dL_law_1966 : decode cL_law 1966 = .ok (.invokestatic 228, 3) := by decide +kernel
theorem dL_law_1969 : decode cL_law 1969 = .ok (.istore 5, 2) := by decide +kernel
theorem dL_law_1971 : decode cL_law 1971 = .ok (.aload_n 2, 1) := by decide +kernel
theorem dL_law_1972 : decode cL_law 1972 = .ok (.aload_n 0, 1) := by decide +kernel
theorem dL_law_1973 : decode cL_law 1973 = .ok (.iload 4, 2) := by decide +kernel
theorem dL_law_1975 : decode cL_law 1975 = .ok (.iconst 1, 1) := by decide +kernel
theorem dL_law_1976 : decode cL_law 1976 = .ok (.iadd, 1) := by decide +kernel
theorem dL_law_1977 : decode cL_law 1977 = .ok (.iaload, 1) := by decide +kernel
theorem dL_law_1978 : decode cL_law 1978 = .ok (.aload_n 0, 1) := by decide +kernel
theorem dL_law_1979 : decode cL_law 1979 = .ok (.iload 4, 2) := by decide +kernel
theorem dL_law_1981 : decode cL_law 1981 = .ok (.iconst 2, 1) := by decide +kernel
theorem dL_law_1982 : decode cL_law 1982 = .ok (.iadd, 1) := by decide +kernel
theorem dL_law_1983 : decode cL_law 1983 = .ok (.iaload, 1) := by decide +kernel
theorem dL_law_1984 : decode cL_law 1984 = .ok (.invokevirtual 230, 3) := by decide +kernel
theorem dL_law_1987 : decode cL_law 1987 = .ok (.istore 6, 2) := by decide +kernel
theorem dL_law_1989 : decode cL_law 1989 = .ok (.aload_n 2, 1) := by decide +kernel
theorem dL_law_1990 : decode cL_law 1990 = .ok (.invokevirtual 140, 3) := by decide +kernel
theorem dL_law_1993 : decode cL_law 1993 = .ok (.iload 5, 2) := by decide +kernel
theorem dL_law_1995 : decode cL_law 1995 = .ok (.if_icmp .eq 5, 3) := by decide +kernel
theorem dL_law_1998 : decode cL_law 1998 = .ok (.iconst 0, 1) := by decide +kernel
theorem dL_law_1999 : decode cL_law 1999 = .ok (.ireturn, 1) := by decide +kernel
theorem dL_law_2000 : decode cL_law 2000 = .ok (.iload 5, 2) := by decide +kernel
theorem dL_law_2002 : decode cL_law 2002 = .ok (.ifCond .ne 15, 3) := by decide +kernel
theorem dL_law_2005 : decode cL_law 2005 = .ok (.aload_n 3, 1) := by decide +kernel
theorem dL_law_2006 : decode cL_law 2006 = .ok (.iconst 0, 1) := by decide +kernel
theorem dL_law_2007 : decode cL_law 2007 = .ok (.laload, 1) := by decide +kernel
theorem dL_law_2008 : decode cL_law 2008 = .ok (.iload 6, 2) := by decide +kernel
theorem dL_law_2010 : decode cL_law 2010 = .ok (.i2l, 1) := by decide +kernel
theorem dL_law_2011 : decode cL_law 2011 = .ok (.lcmp, 1) := by decide +kernel
theorem dL_law_2012 : decode cL_law 2012 = .ok (.ifCond .eq 5, 3) := by decide +kernel
theorem dL_law_2015 : decode cL_law 2015 = .ok (.iconst 0, 1) := by decide +kernel
theorem dL_law_2016 : decode cL_law 2016 = .ok (.ireturn, 1) := by decide +kernel
theorem dL_law_2017 : decode cL_law 2017 = .ok (.goto 668, 3) := by decide +kernel
theorem dL_law_2020 : decode cL_law 2020 = .ok (.aload_n 1, 1) := by decide +kernel
theorem dL_law_2021 : decode cL_law 2021 = .ok (.aload_n 0, 1) := by decide +kernel
theorem dL_law_2022 : decode cL_law 2022 = .ok (.iload 4, 2) := by decide +kernel
theorem dL_law_2024 : decode cL_law 2024 = .ok (.iconst 1, 1) := by decide +kernel
theorem dL_law_2025 : decode cL_law 2025 = .ok (.iadd, 1) := by decide +kernel
theorem dL_law_2026 : decode cL_law 2026 = .ok (.iaload, 1) := by decide +kernel
theorem dL_law_2027 : decode cL_law 2027 = .ok (.aload_n 0, 1) := by decide +kernel
theorem dL_law_2028 : decode cL_law 2028 = .ok (.iload 4, 2) := by decide +kernel
theorem dL_law_2030 : decode cL_law 2030 = .ok (.iconst 2, 1) := by decide +kernel
theorem dL_law_2031 : decode cL_law 2031 = .ok (.iadd, 1) := by decide +kernel
theorem dL_law_2032 : decode cL_law 2032 = .ok (.iaload, 1) := by decide +kernel
theorem dL_law_2033 : decode cL_law 2033 = .ok (.aload_n 3, 1) := by decide +kernel
theorem dL_law_2034 : decode cL_law 2034 = .ok (.invokestatic 231, 3) := by decide +kernel
theorem dL_law_2037 : decode cL_law 2037 = .ok (.istore 5, 2) := by decide +kernel
theorem dL_law_2039 : decode cL_law 2039 = .ok (.aload_n 2, 1) := by decide +kernel
theorem dL_law_2040 : decode cL_law 2040 = .ok (.aload_n 0, 1) := by decide +kernel
theorem dL_law_2041 : decode cL_law 2041 = .ok (.iload 4, 2) := by decide +kernel
theorem dL_law_2043 : decode cL_law 2043 = .ok (.iconst 1, 1) := by decide +kernel
theorem dL_law_2044 : decode cL_law 2044 = .ok (.iadd, 1) := by decide +kernel
theorem dL_law_2045 : decode cL_law 2045 = .ok (.iaload, 1) := by decide +kernel
theorem dL_law_2046 : decode cL_law 2046 = .ok (.aload_n 0, 1) := by decide +kernel
theorem dL_law_2047 : decode cL_law 2047 = .ok (.iload 4, 2) := by decide +kernel
theorem dL_law_2049 : decode cL_law 2049 = .ok (.iconst 2, 1) := by decide +kernel
theorem dL_law_2050 : decode cL_law 2050 = .ok (.iadd, 1) := by decide +kernel
theorem dL_law_2051 : decode cL_law 2051 = .ok (.iaload, 1) := by decide +kernel
theorem dL_law_2052 : decode cL_law 2052 = .ok (.invokevirtual 233, 3) := by decide +kernel
theorem dL_law_2055 : decode cL_law 2055 = .ok (.istore 6, 2) := by decide +kernel
theorem dL_law_2057 : decode cL_law 2057 = .ok (.aload_n 2, 1) := by decide +kernel
theorem dL_law_2058 : decode cL_law 2058 = .ok (.invokevirtual 140, 3) := by decide +kernel
theorem dL_law_2061 : decode cL_law 2061 = .ok (.iload 5, 2) := by decide +kernel
theorem dL_law_2063 : decode cL_law 2063 = .ok (.if_icmp .eq 5, 3) := by decide +kernel
theorem dL_law_2066 : decode cL_law 2066 = .ok (.iconst 0, 1) := by decide +kernel
theorem dL_law_2067 : decode cL_law 2067 = .ok (.ireturn, 1) := by decide +kernel
theorem dL_law_2068 : decode cL_law 2068 = .ok (.iload 5, 2) := by decide +kernel
theorem dL_law_2070 : decode cL_law 2070 = .ok (.ifCond .ne 15, 3) := by decide +kernel
theorem dL_law_2073 : decode cL_law 2073 = .ok (.aload_n 3, 1) := by decide +kernel
theorem dL_law_2074 : decode cL_law 2074 = .ok (.iconst 0, 1) := by decide +kernel
theorem dL_law_2075 : decode cL_law 2075 = .ok (.laload, 1) := by decide +kernel
theorem dL_law_2076 : decode cL_law 2076 = .ok (.iload 6, 2) := by decide +kernel
theorem dL_law_2078 : decode cL_law 2078 = .ok (.i2l, 1) := by decide +kernel
theorem dL_law_2079 : decode cL_law 2079 = .ok (.lcmp, 1) := by decide +kernel
theorem dL_law_2080 : decode cL_law 2080 = .ok (.ifCond .eq 5, 3) := by decide +kernel
theorem dL_law_2083 : decode cL_law 2083 = .ok (.iconst 0, 1) := by decide +kernel
theorem dL_law_2084 : decode cL_law 2084 = .ok (.ireturn, 1) := by decide +kernel
theorem dL_law_2085 : decode cL_law 2085 = .ok (.goto 600, 3) := by decide +kernel
theorem dL_law_2088 : decode cL_law 2088 = .ok (.aload_n 1, 1) := by decide +kernel
theorem dL_law_2089 : decode cL_law 2089 = .ok (.aload_n 0, 1) := by decide +kernel
theorem dL_law_2090 : decode cL_law 2090 = .ok (.iload 4, 2) := by decide +kernel
theorem dL_law_2092 : decode cL_law 2092 = .ok (.iconst 1, 1) := by decide +kernel
theorem dL_law_2093 : decode cL_law 2093 = .ok (.iadd, 1) := by decide +kernel
theorem dL_law_2094 : decode cL_law 2094 = .ok (.iaload, 1) := by decide +kernel
theorem dL_law_2095 : decode cL_law 2095 = .ok (.aload_n 0, 1) := by decide +kernel
theorem dL_law_2096 : decode cL_law 2096 = .ok (.iload 4, 2) := by decide +kernel
theorem dL_law_2098 : decode cL_law 2098 = .ok (.iconst 2, 1) := by decide +kernel
theorem dL_law_2099 : decode cL_law 2099 = .ok (.iadd, 1) := by decide +kernel
theorem dL_law_2100 : decode cL_law 2100 = .ok (.iaload, 1) := by decide +kernel
theorem dL_law_2101 : decode cL_law 2101 = .ok (.aload_n 0, 1) := by decide +kernel
theorem dL_law_2102 : decode cL_law 2102 = .ok (.iload 4, 2) := by decide +kernel
theorem dL_law_2104 : decode cL_law 2104 = .ok (.iconst 3, 1) := by decide +kernel
theorem dL_law_2105 : decode cL_law 2105 = .ok (.iadd, 1) := by decide +kernel
theorem dL_law_2106 : decode cL_law 2106 = .ok (.iaload, 1) := by decide +kernel
theorem dL_law_2107 : decode cL_law 2107 = .ok (.aload_n 0, 1) := by decide +kernel
theorem dL_law_2108 : decode cL_law 2108 = .ok (.iload 4, 2) := by decide +kernel
theorem dL_law_2110 : decode cL_law 2110 = .ok (.iconst 4, 1) := by decide +kernel
theorem dL_law_2111 : decode cL_law 2111 = .ok (.iadd, 1) := by decide +kernel
theorem dL_law_2112 : decode cL_law 2112 = .ok (.iaload, 1) := by decide +kernel
theorem dL_law_2113 : decode cL_law 2113 = .ok (.aload_n 0, 1) := by decide +kernel
theorem dL_law_2114 : decode cL_law 2114 = .ok (.iload 4, 2) := by decide +kernel
theorem dL_law_2116 : decode cL_law 2116 = .ok (.iconst 5, 1) := by decide +kernel
theorem dL_law_2117 : decode cL_law 2117 = .ok (.iadd, 1) := by decide +kernel
theorem dL_law_2118 : decode cL_law 2118 = .ok (.iaload, 1) := by decide +kernel
theorem dL_law_2119 : decode cL_law 2119 = .ok (.aload_n 0, 1) := by decide +kernel
theorem dL_law_2120 : decode cL_law 2120 = .ok (.iload 4, 2) := by decide +kernel
theorem dL_law_2122 : decode cL_law 2122 = .ok (.bipush 6, 2) := by decide +kernel
theorem dL_law_2124 : decode cL_law 2124 = .ok (.iadd, 1) := by decide +kernel
theorem dL_law_2125 : decode cL_law 2125 = .ok (.iaload, 1) := by decide +kernel
theorem dL_law_2126 : decode cL_law 2126 = .ok (.aload_n 3, 1) := by decide +kernel
theorem dL_law_2127 : decode cL_law 2127 = .ok (.invokestatic 234, 3) := by decide +kernel
theorem dL_law_2130 : decode cL_law 2130 = .ok (.istore 5, 2) := by decide +kernel
theorem dL_law_2132 : decode cL_law 2132 = .ok (.aload_n 2, 1) := by decide +kernel
theorem dL_law_2133 : decode cL_law 2133 = .ok (.aload_n 0, 1) := by decide +kernel
theorem dL_law_2134 : decode cL_law 2134 = .ok (.iload 4, 2) := by decide +kernel
theorem dL_law_2136 : decode cL_law 2136 = .ok (.iconst 1, 1) := by decide +kernel
theorem dL_law_2137 : decode cL_law 2137 = .ok (.iadd, 1) := by decide +kernel
theorem dL_law_2138 : decode cL_law 2138 = .ok (.iaload, 1) := by decide +kernel
theorem dL_law_2139 : decode cL_law 2139 = .ok (.aload_n 0, 1) := by decide +kernel
theorem dL_law_2140 : decode cL_law 2140 = .ok (.iload 4, 2) := by decide +kernel
theorem dL_law_2142 : decode cL_law 2142 = .ok (.iconst 2, 1) := by decide +kernel
theorem dL_law_2143 : decode cL_law 2143 = .ok (.iadd, 1) := by decide +kernel
theorem dL_law_2144 : decode cL_law 2144 = .ok (.iaload, 1) := by decide +kernel
theorem dL_law_2145 : decode cL_law 2145 = .ok (.aload_n 0, 1) := by decide +kernel
theorem dL_law_2146 : decode cL_law 2146 = .ok (.iload 4, 2) := by decide +kernel
theorem dL_law_2148 : decode cL_law 2148 = .ok (.iconst 3, 1) := by decide +kernel
theorem dL_law_2149 : decode cL_law 2149 = .ok (.iadd, 1) := by decide +kernel
theorem dL_law_2150 : decode cL_law 2150 = .ok (.iaload, 1) := by decide +kernel
theorem dL_law_2151 : decode cL_law 2151 = .ok (.aload_n 0, 1) := by decide +kernel
theorem dL_law_2152 : decode cL_law 2152 = .ok (.iload 4, 2) := by decide +kernel
theorem dL_law_2154 : decode cL_law 2154 = .ok (.iconst 4, 1) := by decide +kernel
theorem dL_law_2155 : decode cL_law 2155 = .ok (.iadd, 1) := by decide +kernel
theorem dL_law_2156 : decode cL_law 2156 = .ok (.iaload, 1) := by decide +kernel
theorem dL_law_2157 : decode cL_law 2157 = .ok (.aload_n 0, 1) := by decide +kernel
theorem dL_law_2158 : decode cL_law 2158 = .ok (.iload 4, 2) := by decide +kernel
theorem dL_law_2160 : decode cL_law 2160 = .ok (.iconst 5, 1) := by decide +kernel
theorem dL_law_2161 : decode cL_law 2161 = .ok (.iadd, 1) := by decide +kernel
theorem dL_law_2162 : decode cL_law 2162 = .ok (.iaload, 1) := by decide +kernel
theorem dL_law_2163 : decode cL_law 2163 = .ok (.aload_n 0, 1) := by decide +kernel
theorem dL_law_2164 : decode cL_law 2164 = .ok (.iload 4, 2) := by decide +kernel
theorem dL_law_2166 : decode cL_law 2166 = .ok (.bipush 6, 2) := by decide +kernel
theorem dL_law_2168 : decode cL_law 2168 = .ok (.iadd, 1) := by decide +kernel
theorem dL_law_2169 : decode cL_law 2169 = .ok (.iaload, 1) := by decide +kernel
theorem dL_law_2170 : decode cL_law 2170 = .ok (.invokevirtual 237, 3) := by decide +kernel
theorem dL_law_2173 : decode cL_law 2173 = .ok (.istore 6, 2) := by decide +kernel
theorem dL_law_2175 : decode cL_law 2175 = .ok (.aload_n 2, 1) := by decide +kernel
theorem dL_law_2176 : decode cL_law 2176 = .ok (.invokevirtual 140, 3) := by decide +kernel
theorem dL_law_2179 : decode cL_law 2179 = .ok (.iload 5, 2) := by decide +kernel
theorem dL_law_2181 : decode cL_law 2181 = .ok (.if_icmp .eq 5, 3) := by decide +kernel
theorem dL_law_2184 : decode cL_law 2184 = .ok (.iconst 0, 1) := by decide +kernel
theorem dL_law_2185 : decode cL_law 2185 = .ok (.ireturn, 1) := by decide +kernel
theorem dL_law_2186 : decode cL_law 2186 = .ok (.iload 5, 2) := by decide +kernel
theorem dL_law_2188 : decode cL_law 2188 = .ok (.ifCond .ne 15, 3) := by decide +kernel
theorem dL_law_2191 : decode cL_law 2191 = .ok (.aload_n 3, 1) := by decide +kernel
theorem dL_law_2192 : decode cL_law 2192 = .ok (.iconst 0, 1) := by decide +kernel
theorem dL_law_2193 : decode cL_law 2193 = .ok (.laload, 1) := by decide +kernel
theorem dL_law_2194 : decode cL_law 2194 = .ok (.iload 6, 2) := by decide +kernel
theorem dL_law_2196 : decode cL_law 2196 = .ok (.i2l, 1) := by decide +kernel
theorem dL_law_2197 : decode cL_law 2197 = .ok (.lcmp, 1) := by decide +kernel
theorem dL_law_2198 : decode cL_law 2198 = .ok (.ifCond .eq 5, 3) := by decide +kernel
theorem dL_law_2201 : decode cL_law 2201 = .ok (.iconst 0, 1) := by decide +kernel
theorem dL_law_2202 : decode cL_law 2202 = .ok (.ireturn, 1) := by decide +kernel
theorem dL_law_2203 : decode cL_law 2203 = .ok (.goto 482, 3) := by decide +kernel
theorem dL_law_2206 : decode cL_law 2206 = .ok (.aload_n 1, 1) := by decide +kernel
theorem dL_law_2207 : decode cL_law 2207 = .ok (.aload_n 0, 1) := by decide +kernel
theorem dL_law_2208 : decode cL_law 2208 = .ok (.iload 4, 2) := by decide +kernel
theorem dL_law_2210 : decode cL_law 2210 = .ok (.iconst 1, 1) := by decide +kernel
theorem dL_law_2211 : decode cL_law 2211 = .ok (.iadd, 1) := by decide +kernel
theorem dL_law_2212 : decode cL_law 2212 = .ok (.iaload, 1) := by decide +kernel
theorem dL_law_2213 : decode cL_law 2213 = .ok (.aload_n 3, 1) := by decide +kernel
theorem dL_law_2214 : decode cL_law 2214 = .ok (.invokestatic 238, 3) := by decide +kernel
theorem dL_law_2217 : decode cL_law 2217 = .ok (.istore 5, 2) := by decide +kernel
theorem dL_law_2219 : decode cL_law 2219 = .ok (.aload_n 2, 1) := by decide +kernel
theorem dL_law_2220 : decode cL_law 2220 = .ok (.aload_n 0, 1) := by decide +kernel
theorem dL_law_2221 : decode cL_law 2221 = .ok (.iload 4, 2) := by decide +kernel
