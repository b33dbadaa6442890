theorem dL_law__1767 : decode cL_law_ 1767 = .ok (.istore 5, 2) := by decide +kernel
theorem dL_law__1769 : decode cL_law_ 1769 = .ok (.aload_n 2, 1) := by decide +kernel
theorem dL_law__1770 : decode cL_law_ 1770 = .ok (.aload_n 0, 1) := by decide +kernel
theorem dL_law__1771 : decode cL_law_ 1771 = .ok (.iload 4, 2) := by decide +kernel
theorem dL_law__1773 : decode cL_law_ 1773 = .ok (.iconst 1, 1) := by decide +kernel
theorem dL_law__1774 : decode cL_law_ 1774 = .ok (.iadd, 1) := by decide +kernel
theorem dL_law__1775 : decode cL_law_ 1775 = .ok (.iaload, 1) := by decide +kernel
theorem dL_law__1776 : decode cL_law_ 1776 = .ok (.invokevirtual 224, 3) := by decide +kernel
theorem dL_law__1779 : decode cL_law_ 1779 = .ok (.istore 6, 2) := by decide +kernel
theorem dL_law__1781 : decode cL_law_ 1781 = .ok (.aload_n 2, 1) := by decide +kernel
theorem dL_law__1782 : decode cL_law_ 1782 = .ok (.invokevirtual 139, 3) := by decide +kernel
theorem dL_law__1785 : decode cL_law_ 1785 = .ok (.iload 5, 2) := by decide +kernel
theorem dL_law__1787 : decode cL_law_ 1787 = .ok (.if_icmp .eq 5, 3) := by decide +kernel
theorem dL_law__1790 : decode cL_law_ 1790 = .ok (.iconst 0, 1) := by decide +kernel
theorem dL_law__1791 : decode cL_law_ 1791 = .ok (.ireturn, 1) := by decide +kernel
theorem dL_law__1792 : decode cL_law_ 1792 = .ok (.iload 5, 2) := by decide +kernel
theorem dL_law__1794 : decode cL_law_ 1794 = .ok (.ifCond .ne 15, 3) := by decide +kernel
theorem dL_law__1797 : decode cL_law_ 1797 = .ok (.aload_n 3, 1) := by decide +kernel
theorem dL_law__1798 : decode cL_law_ 1798 = .ok (.iconst 0, 1) := by decide +kernel
theorem dL_law__1799 : decode cL_law_ 1799 = .ok (.laload, 1) := by decide +kernel
theorem dL_law__1800 : decode cL_law_ 1800 = .ok (.iload 6, 2) := by decide +kernel
theorem dL_law__1802 : decode cL_law_ 1802 = .ok (.i2l, 1) := by decide +kernel
theorem dL_law__1803 : decode cL_law_ 1803 = .ok (.lcmp, 1) := by decide +kernel
theorem dL_law__1804 : decode cL_law_ 1804 = .ok (.ifCond .eq 5, 3) := by decide +kernel
theorem dL_law__1807 : decode cL_law_ 1807 = .ok (.iconst 0, 1) := by decide +kernel
theorem dL_law__1808 : decode cL_law_ 1808 = .ok (.ireturn, 1) := by decide +kernel
theorem dL_law__1809 : decode cL_law_ 1809 = .ok (.goto 835, 3) := by decide +kernel
theorem dL_law__1812 : decode cL_law_ 1812 = .ok (.aload_n 1, 1) := by decide +kernel
theorem dL_law__1813 : decode cL_law_ 1813 = .ok (.invokevirtual 225, 3) := by decide +kernel
theorem dL_law__1816 : decode cL_law_ 1816 = .ok (.aload_n 2, 1) := by decide +kernel
theorem dL_law__1817 : decode cL_law_ 1817 = .ok (.invokevirtual 228, 3) := by decide +kernel
theorem dL_law__1820 : decode cL_law_ 1820 = .ok (.if_icmp .eq 824, 3) := by decide +kernel
theorem dL_law__1823 : decode cL_law_ 1823 = .ok (.iconst 0, 1) := by decide +kernel
theorem dL_law__1824 : decode cL_law_ 1824 = .ok (.ireturn, 1) := by decide +kernel
theorem dL_law__1825 : decode cL_law_ 1825 = .ok (.aload_n 1, 1) := by decide +kernel
theorem dL_law__1826 : decode cL_law_ 1826 = .ok (.aload_n 0, 1) := by decide +kernel
theorem dL_law__1827 : decode cL_law_ 1827 = .ok (.iload 4, 2) := by decide +kernel
theorem dL_law__1829 : decode cL_law_ 1829 = .ok (.iconst 1, 1) := by decide +kernel
theorem dL_law__1830 : decode cL_law_ 1830 = .ok (.iadd, 1) := by decide +kernel
theorem dL_law__1831 : decode cL_law_ 1831 = .ok (.iaload, 1) := by decide +kernel
theorem dL_law__1832 : decode cL_law_ 1832 = .ok (.aload_n 0, 1) := by decide +kernel
theorem dL_law__1833 : decode cL_law_ 1833 = .ok (.iload 4, 2) := by decide +kernel
theorem dL_law__1835 : decode cL_law_ 1835 = .ok (.iconst 2, 1) := by decide +kernel
theorem dL_law__1836 : decode cL_law_ 1836 = .ok (.iadd, 1) := by decide +kernel
theorem dL_law__1837 : decode cL_law_ 1837 = .ok (.iaload, 1) := by decide +kernel
theorem dL_law__1838 : decode cL_law_ 1838 = .ok (.aload_n 3, 1) := by decide +kernel
theorem dL_law__1839 : decode cL_law_ 1839 = .ok (.invokestatic 229, 3) := by decide +kernel
theorem dL_law__1842 : decode cL_law_ 1842 = .ok (.istore 5, 2) := by decide +kernel
theorem dL_law__1844 : decode cL_law_ 1844 = .ok (.aload_n 2, 1) := by decide +kernel
theorem dL_law__1845 : decode cL_law_ 1845 = .ok (.aload_n 0, 1) := by decide +kernel
theorem dL_law__1846 : decode cL_law_ 1846 = .ok (.iload 4, 2) := by decide +kernel
theorem dL_law__1848 : decode cL_law_ 1848 = .ok (.iconst 1, 1) := by decide +kernel
theorem dL_law__1849 : decode cL_law_ 1849 = .ok (.iadd, 1) := by decide +kernel
theorem dL_law__1850 : decode cL_law_ 1850 = .ok (.iaload, 1) := by decide +kernel
theorem dL_law__1851 : decode cL_law_ 1851 = .ok (.aload_n 0, 1) := by decide +kernel
theorem dL_law__1852 : decode cL_law_ 1852 = .ok (.iload 4, 2) := by decide +kernel
theorem dL_law__1854 : decode cL_law_ 1854 = .ok (.iconst 2, 1) := by decide +kernel
theorem dL_law__1855 : decode cL_law_ 1855 = .ok (.iadd, 1) := by decide +kernel
theorem dL_law__1856 : decode cL_law_ 1856 = .ok (.iaload, 1) := by decide +kernel
theorem dL_law__1857 : decode cL_law_ 1857 = .ok (.invokevirtual 231, 3) := by decide +kernel
theorem dL_law__1860 : decode cL_law_ 1860 = .ok (.istore 6, 2) := by decide +kernel
theorem dL_law__1862 : decode cL_law_ 1862 = .ok (.aload_n 2, 1) := by decide +kernel
theorem dL_law__1863 : decode cL_law_ 1863 = .ok (.invokevirtual 139, 3) := by decide +kernel
theorem dL_law__1866 : decode cL_law_ 1866 = .ok (.iload 5, 2) := by decide +kernel
theorem dL_law__1868 : decode cL_law_ 1868 = .ok (.if_icmp .eq 5, 3) := by decide +kernel
theorem dL_law__1871 : decode cL_law_ 1871 = .ok (.iconst 0, 1) := by decide +kernel
theorem dL_law__1872 : decode cL_law_ 1872 = .ok (.ireturn, 1) := by decide +kernel
theorem dL_law__1873 : decode cL_law_ 1873 = .ok (.iload 5, 2) := by decide +kernel
theorem dL_law__1875 : decode cL_law_ 1875 = .ok (.ifCond .ne 15, 3) := by decide +kernel
theorem dL_law__1878 : decode cL_law_ 1878 = .ok (.aload_n 3, 1) := by decide +kernel
theorem dL_law__1879 : decode cL_law_ 1879 = .ok (.iconst 0, 1) := by decide +kernel
theorem dL_law__1880 : decode cL_law_ 1880 = .ok (.laload, 1) := by decide +kernel
theorem dL_law__1881 : decode cL_law_ 1881 = .ok (.iload 6, 2) := by decide +kernel
theorem dL_law__1883 : decode cL_law_ 1883 = .ok (.i2l, 1) := by decide +kernel
theorem dL_law__1884 : decode cL_law_ 1884 = .ok (.lcmp, 1) := by decide +kernel
theorem dL_law__1885 : decode cL_law_ 1885 = .ok (.ifCond .eq 5, 3) := by decide +kernel
theorem dL_law__1888 : decode cL_law_ 1888 = .ok (.iconst 0, 1) := by decide +kernel
theorem dL_law__1889 : decode cL_law_ 1889 = .ok (.ireturn, 1) := by decide +kernel
theorem dL_law__1890 : decode cL_law_ 1890 = .ok (.goto 754, 3) := by decide +kernel
theorem dL_law__1893 : decode cL_law_ 1893 = .ok (.aload_n 1, 1) := by decide +kernel
theorem dL_law__1894 : decode cL_law_ 1894 = .ok (.invokevirtual 232, 3) := by decide +kernel
theorem dL_law__1897 : decode cL_law_ 1897 = .ok (.aload_n 2, 1) := by decide +kernel
theorem dL_law__1898 : decode cL_law_ 1898 = .ok (.invokevirtual 235, 3) := by decide +kernel
theorem dL_law__1901 : decode cL_law_ 1901 = .ok (.if_icmp .eq 743, 3) := by decide +kernel
theorem dL_law__1904 : decode cL_law_ 1904 = .ok (.iconst 0, 1) := by decide +kernel
theorem dL_law__1905 : decode cL_law_ 1905 = .ok (.ireturn, 1) := by decide +kernel
theorem dL_law__1906 : decode cL_law_ 1906 = .ok (.aload_n 1, 1) := by decide +kernel
theorem dL_law__1907 : decode cL_law_ 1907 = .ok (.aload_n 0, 1) := by decide +kernel
theorem dL_law__1908 : decode cL_law_ 1908 = .ok (.iload 4, 2) := by decide +kernel
theorem dL_law__1910 : decode cL_law_ 1910 = .ok (.iconst 1, 1) := by decide +kernel
theorem dL_law__1911 : decode cL_law_ 1911 = .ok (.iadd, 1) := by decide +kernel
theorem dL_law__1912 : decode cL_law_ 1912 = .ok (.iaload, 1) := by decide +kernel
theorem dL_law__1913 : decode cL_law_ 1913 = .ok (.aload_n 3, 1) := by decide +kernel
theorem dL_law__1914 : decode cL_law_ 1914 = .ok (.invokestatic 236, 3) := by decide +kernel
theorem dL_law__1917 : decode cL_law_ 1917 = .ok (.istore 5, 2) := by decide +kernel
theorem dL_law__1919 : decode cL_law_ 1919 = .ok (.aload_n 2, 1) := by decide +kernel
theorem dL_law__1920 : decode cL_law_ 1920 = .ok (.aload_n 0, 1) := by decide +kernel
theorem dL_law__1921 : decode cL_law_ 1921 = .ok (.iload 4, 2) := by decide +kernel
theorem dL_law__1923 : decode cL_law_ 1923 = .ok (.iconst 1, 1) := by decide +kernel
theorem dL_law__1924 : decode cL_law_ 1924 = .ok (.iadd, 1) := by decide +kernel
theorem dL_law__1925 : decode cL_law_ 1925 = .ok (.iaload, 1) := by decide +kernel
theorem dL_law__1926 : decode cL_law_ 1926 = .ok (.invokevirtual 238, 3) := by decide +kernel
theorem dL_law__1929 : decode cL_law_ 1929 = .ok (.istore 6, 2) := by decide +kernel
theorem dL_law__1931 : decode cL_law_ 1931 = .ok (.aload_n 2, 1) := by decide +kernel
theorem dL_law__1932 : decode cL_law_ 1932 = .ok (.invokevirtual 139, 3) := by decide +kernel
theorem dL_law__1935 : decode cL_law_ 1935 = .ok (.iload 5, 2) := by decide +kernel
theorem dL_law__1937 : decode cL_law_ 1937 = .ok (.if_icmp .eq 5, 3) := by decide +kernel
theorem dL_law__1940 : decode cL_law_ 1940 = .ok (.iconst 0, 1) := by decide +kernel
theorem dL_law__1941 : decode cL_law_ 1941 = .ok (.ireturn, 1) := by decide +kernel
theorem dL_law__1942 : decode cL_law_ 1942 = .ok (.iload 5, 2) := by decide +kernel
theorem dL_law__1944 : decode cL_law_ 1944 = .ok (.ifCond .ne 15, 3) := by decide +kernel
theorem dL_law__1947 : decode cL_law_ 1947 = .ok (.aload_n 3, 1) := by decide +kernel
theorem dL_law__1948 : decode cL_law_ 1948 = .ok (.iconst 0, 1) := by decide +kernel
theorem dL_law__1949 : decode cL_law_ 1949 = .ok (.laload, 1) := by decide +kernel
theorem dL_law__1950 : decode cL_law_ 1950 = .ok (.iload 6, 2) := by decide +kernel
theorem dL_law__1952 : decode cL_law_ 1952 = .ok (.i2l, 1) := by decide +kernel
theorem dL_law__1953 : decode cL_law_ 1953 = .ok (.lcmp, 1) := by decide +kernel
theorem dL_law__1954 : decode cL_law_ 1954 = .ok (.ifCond .eq 5, 3) := by decide +kernel
theorem dL_law__1957 : decode cL_law_ 1957 = .ok (.iconst 0, 1) := by decide +kernel
theorem dL_law__1958 : decode cL_law_ 1958 = .ok (.ireturn, 1) := by decide +kernel
theorem dL_law__1959 : decode cL_law_ 1959 = .ok (.goto 685, 3) := by decide +kernel
theorem dL_law__1962 : decode cL_law_ 1962 = .ok (.aload_n 1, 1) := by decide +kernel
theorem dL_law__1963 : decode cL_law_ 1963 = .ok (.aload_n 0, 1) := by decide +kernel
theorem dL_law__1964 : decode cL_law_ 1964 = .ok (.iload 4, 2) := by decide +kernel
theorem dL_law__1966 : decode cL_law_ 1966 = .ok (.iconst 1, 1) := by decide +kernel
theorem dL_law__1967 : decode cL_law_ 1967 = .ok (.iadd, 1) := by decide +kernel
theorem dL_law__1968 : decode cL_law_ 1968 = .ok (.iaload, 1) := by decide +kernel
theorem dL_law__1969 : decode cL_law_ 1969 = .ok (.aload_n 0, 1) := by decide +kernel
theorem dL_law__1970 : decode cL_law_ 1970 = .ok (.iload 4, 2) := by decide +kernel
theorem dL_law__1972 : decode cL_law_ 1972 = .ok (.iconst 2, 1) := by decide +kernel
theorem dL_law__1973 : decode cL_law_ 1973 = .ok (.iadd, 1) := by decide +kernel
theorem dL_law__1974 : decode cL_law_ 1974 = .ok (.iaload, 1) := by decide +kernel
theorem dL_law__1975 : decode cL_law_ 1975 = .ok (.aload_n 3, 1) := by decide +kernel
theorem dL_law__1976 : decode cL_law_ 1976 = .ok (.invokestatic 239, 3) := by decide +kernel
theorem dL_law__1979 : decode cL_law_ 1979 = .ok (.istore 5, 2) := by decide +kernel
theorem dL_law__1981 : decode cL_law_ 1981 = .ok (.aload_n 2, 1) := by decide +kernel
theorem dL_law__1982 : decode cL_law_ 1982 = .ok (.aload_n 0, 1) := by decide +kernel
theorem dL_law__1983 : decode cL_law_ 1983 = .ok (.iload 4, 2) := by decide +kernel
theorem dL_law__1985 : decode cL_law_ 1985 = .ok (.iconst 1, 1) := by decide +kernel
theorem dL_law__1986 : decode cL_law_ 1986 = .ok (.iadd, 1) := by decide +kernel
theorem dL_law__1987 : decode cL_law_ 1987 = .ok (.iaload, 1) := by decide +kernel
theorem dL_law__1988 : decode cL_law_ 1988 = .ok (.aload_n 0, 1) := by decide +kernel
theorem dL_law__1989 : decode cL_law_ 1989 = .ok (.iload 4, 2) := by decide +kernel
theorem dL_law__1991 : decode cL_law_ 1991 = .ok (.iconst 2, 1) := by decide +kernel
theorem dL_law__1992 : decode cL_law_ 1992 = .ok (.iadd, 1) := by decide +kernel
theorem dL_law__1993 : decode cL_law_ 1993 = .ok (.iaload, 1) := by decide +kernel
theorem dL_law__1994 : decode cL_law_ 1994 = .ok (.invokevirtual 241, 3) := by decide +kernel
theorem dL_law__1997 : decode cL_law_ 1997 = .ok (.istore 6, 2) := by decide +kernel
theorem dL_law__1999 : decode cL_law_ 1999 = .ok (.aload_n 2, 1) := by decide +kernel
theorem dL_law__2000 : decode cL_law_ 2000 = .ok (.invokevirtual 139, 3) := by decide +kernel
theorem dL_law__2003 : decode cL_law_ 2003 = .ok (.iload 5, 2) := by decide +kernel
theorem dL_law__2005 : decode cL_law_ 2005 = .ok (.if_icmp .eq 5, 3) := by decide +kernel
theorem dL_law__2008 : decode cL_law_ 2008 = .ok (.iconst 0, 1) := by decide +kernel
theorem dL_law__2009 : decode cL_law_ 2009 = .ok (.ireturn, 1) := by decide +kernel
theorem dL_law__2010 : decode cL_law_ 2010 = .ok (.iload 5, 2) := by decide +kernel
theorem dL_law__2012 : decode cL_law_ 2012 = .ok (.ifCond .ne 15, 3) := by decide +kernel
theorem dL_law__2015 : decode cL_law_ 2015 = .ok (.aload_n 3, 1) := by decide +kernel
theorem dL_law__2016 : decode cL_law_ 2016 = .ok (.iconst 0, 1) := by decide +kernel
theorem dL_law__2017 : decode cL_law_ 2017 = .ok (.laload, 1) := by decide +kernel
theorem dL_law__2018 : decode cL_law_ 2018 = .ok (.iload 6, 2) := by decide +kernel
theorem dL_law__2020 : decode cL_law_ 2020 = .ok (.i2l, 1) := by decide +kernel
theorem dL_law__2021 : decode cL_law_ 2021 = .ok (.lcmp, 1) := by decide +kernel
theorem dL_law__2022 : decode cL_law_ 2022 = .ok (.ifCond .eq 5, 3) := by decide +kernel
theorem dL_law__2025 : decode cL_law_ 2025 = .ok (.iconst 0, 1) := by decide +kernel
theorem dL_law__2026 : decode cL_law_ 2026 = .ok (.ireturn, 1) := by decide +kernel
theorem dL_law__2027 : decode cL_law_ 2027 = .ok (.goto 617, 3) := by decide +kernel
theorem dL_law__2030 : decode cL_law_ 2030 = .ok (.aload_n 1, 1) := by decide +kernel
theorem dL_law__2031 : decode cL_law_ 2031 = .ok (.invokevirtual 242, 3) := by decide +kernel
theorem dL_law__2034 : decode cL_law_ 2034 = .ok (.aload_n 2, 1) := by decide +kernel
theorem dL_law__2035 : decode cL_law_ 2035 = .ok (.invokevirtual 246, 3) := by decide +kernel
theorem dL_law__2038 : decode cL_law_ 2038 = .ok (.if_icmp .eq 606, 3) := by decide +kernel
theorem dL_law__2041 : decode cL_law_ 2041 = .ok (.iconst 0, 1) := by decide +kernel
theorem dL_law__2042 : decode cL_law_ 2042 = .ok (.ireturn, 1) := by decide +kernel
theorem dL_law__2043 : decode cL_law_ 2043 = .ok (.aload_n 1, 1) := by decide +kernel
theorem dL_law__2044 : decode cL_law_ 2044 = .ok (.aload_n 0, 1) := by decide +kernel
theorem dL_law__2045 : decode cL_law_ 2045 = .ok (.iload 4, 2) := by decide +kernel
theorem dL_law__2047 : decode cL_law_ 2047 = .ok (.iconst 1, 1) := by decide +kernel
theorem dL_law__2048 : decode cL_law_ 2048 = .ok (.iadd, 1) := by decide +kernel
theorem dL_law__2049 : decode cL_law_ 2049 = .ok (.iaload, 1) := by decide +kernel
theorem dL_law__2050 : decode cL_law_ 2050 = .ok (.aload_n 3, 1) := by decide +kernel
theorem dL_law__2051 : decode cL_law_ 2051 = .ok (.invokestatic 247, 3) := by decide +kernel
theorem dL_law__2054 : decode cL_law_ 2054 = .ok (.istore 5, 2) := by decide +kernel
theorem dL_law__2056 : decode cL_law_ 2056 = .ok (.aload_n 2, 1) := by decide +kernel
theorem dL_law__2057 : decode cL_law_ 2057 = .ok (.aload_n 0, 1) := by decide +kernel
theorem dL_law__2058 : decode cL_law_ 2058 = .ok (.iload 4, 2) := by decide +kernel
theorem dL_law__2060 : decode cL_law_ 2060 = .ok (.iconst 1, 1) := by decide +kernel
theorem dL_law__2061 : decode cL_law_ 2061 = .ok (.iadd, 1) := by decide +kernel
theorem dL_law__2062 : decode cL_law_ 2062 = .ok (.iaload, 1) := by decide +kernel
theorem dL_law__2063 : decode cL_law_ 2063 = .ok (.invokevirtual 249, 3) := by decide +kernel
theorem dL_law__2066 : decode cL_law_ 2066 = .ok (.istore 6, 2) := by decide +kernel
theorem dL_law__2068 : decode cL_law_ 2068 = .ok (.aload_n 2, 1) := by decide +kernel
theorem dL_law__2069 : decode cL_law_ 2069 = .ok (.invokevirtual 139, 3) := by decide +kernel
theorem dL_law__2072 : decode cL_law_ 2072 = .ok (.iload 5, 2) := by decide +kernel
theorem dL_law__2074 : decode cL_law_ 2074 = .ok (.if_icmp .eq 5, 3) := by decide +kernel
theorem dL_law__2077 : decode cL_law_ 2077 = .ok (.iconst 0, 1) := by decide +kernel
theorem dL_law__2078 : decode cL_law_ 2078 = .ok (.ireturn, 1) := by decide +kernel
theorem dL_law__2079 : decode cL_law_ 2079 = .ok (.iload 5, 2) := by decide +kernel
theorem dL_law__2081 : decode cL_law_ 2081 = .ok (.ifCond .ne 15, 3) := by decide +kernel
theorem dL_law__2084 : decode cL_law_ 2084 = .ok (.aload_n 3, 1) := by decide +kernel
theorem dL_law__2085 : decode cL_law_ 2085 = .ok (.iconst 0, 1) := by decide +kernel
theorem dL_law__2086 : decode cL_law_ 2086 = .ok (.laload, 1) := by decide +kernel
theorem dL_law__2087 : decode cL_law_ 2087 = .ok (.iload 6, 2) := by decide +kernel
theorem dL_law__2089 : decode cL_law_ 2089 = .ok (.i2l, 1) := by decide +kernel
theorem dL_law__2090 : decode cL_law_ 2090 = .ok (.lcmp, 1) := by decide +kernel
theorem dL_law__2091 : decode cL_law_ 2091 = .ok (.ifCond .eq 5, 3) := by decide +kernel
theorem dL_law__2094 : decode cL_law_ 2094 = .ok (.iconst 0, 1) := by decide +kernel
theorem dL_law__2095 : decode cL_law_ 2095 = .ok (.ireturn, 1) := by decide +kernel
theorem dL_law__2096 : decode cL_law_ 2096 = .ok (.goto 548, 3) := by decide +kernel
theorem dL_law__2099 : decode cL_law_ 2099 = .ok (.aload_n 1, 1) := by decide +kernel
theorem dL_law__2100 : decode cL_law_ 2100 = .ok (.invokevirtual 250, 3) := by decide +kernel
theorem dL_law__2103 : decode cL_law_ 2103 = .ok (.aload_n 2, 1) := by decide +kernel
theorem dL_law__2104 : decode cL_law_ 2104 = .ok (.invokevirtual 253, 3) := by decide +kernel
theorem dL_law__2107 : decode cL_law_ 2107 = .ok (.if_icmp .eq 537, 3) := by decide +kernel
theorem dL_law__2110 : decode cL_law_ 2110 = .ok (.iconst 0, 1) := by decide +kernel
theorem dL_law__2111 : decode cL_law_ 2111 = .ok (.ireturn, 1) := by decide +kernel
theorem dL_law__2112 : decode cL_law_ 2112 = .ok (.aload_n 1, 1) := by decide +kernel
theorem dL_law__2113 : decode cL_law_ 2113 = .ok (.invokevirtual 254, 3) := by decide +kernel
theorem dL_law__2116 : decode cL_law_ 2116 = .ok (.aload_n 2, 1) := by decide +kernel
theorem dL_law__2117 : decode cL_law_ 2117 = .ok (.invokevirtual 257, 3) := by decide +kernel
theorem dL_law__2120 : decode cL_law_ 2120 = .ok (.if_icmp .eq 524, 3) := by decide +kernel
theorem dL_law__2123 : decode cL_law_ 2123 = .ok (.iconst 0, 1) := by decide +kernel
theorem dL_law__2124 : decode cL_law_ 2124 = .ok (.ireturn, 1) := by decide +kernel
theorem dL_law__2125 : decode cL_law_ 2125 = .ok (.aload_n 1, 1) := by decide +kernel
theorem dL_law__2126 : decode cL_law_ 2126 = .ok (.aload_n 0, 1) := by decide +kernel
theorem dL_law__2127 : decode cL_law_ 2127 = .ok (.iload 4, 2) := by decide +kernel
theorem dL_law__2129 : decode cL_law_ 2129 = .ok (.iconst 1, 1) := by decide +kernel
theorem dL_law__2130 : decode cL_law_ 2130 = .ok (.iadd, 1) := by decide +kernel
theorem dL_law__2131 : decode cL_law_ 2131 = .ok (.iaload, 1) := by decide +kernel
theorem dL_law__2132 : decode cL_law_ 2132 = .ok (.aload_n 3, 1) := by decide +kernel
theorem dL_law__2133 : decode cL_law_ 2133 = .ok (.invokestatic 258, 3) := by decide +kernel
theorem dL_law__2136 : decode cL_law_ 2136 = .ok (.istore 5, 2) := by decide +kernel
theorem dL_law__2138 : decode cL_law_ 2138 = .ok (.aload_n 2, 1) := by decide +kernel
theorem dL_law__2139 : decode cL_law_ 2139 = .ok (.aload_n 0, 1) := by decide +kernel
theorem dL_law__2140 : decode cL_law_ 2140 = .ok (.iload 4, 2) := by decide +kernel
theorem dL_law__2142 : decode cL_law_ 2142 = .ok (.iconst 1, 1) := by decide +kernel
theorem dL_law__2143 : decode cL_law_ 2143 = .ok (.iadd, 1) := by decide +kernel
theorem dL_law__2144 : decode cL_law_ 2144 = .ok (.iaload, 1) := by decide +kernel
theorem dL_law__2145 : decode cL_law_ 2145 = .ok (.invokevirtual 260, 3) := by decide +kernel
theorem dL_law__2148 : decode cL_law_ 2148 = .ok (.istore 6, 2) := by decide +kernel
theorem dL_law__2150 : decode cL_law_ 2150 = .ok (.aload_n 2, 1) := by decide +kernel
theorem dL_law__2151 : decode cL_law_ 2151 = .ok (.invokevirtual 139, 3) := by decide +kernel
theorem dL_law__2154 : decode cL_law_ 2154 = .ok (.iload 5, 2) := by decide +kernel
theorem dL_law__2156 : decode cL_law_ 2156 = .ok (.if_icmp .eq 5, 3) := by decide +kernel
theorem dL_law__2159 : decode cL_law_ 2159 = .ok (.iconst 0, 1) := by decide +kernel
theorem dL_law__2160 : decode cL_law_ 2160 = .ok (.ireturn, 1) := by decide +kernel
theorem dL_law__2161 : decode cL_law_ 2161 = .ok (.iload 5, 2) := by decide +kernel
theorem dL_law__2163 : decode cL_law_ 2163 = .ok (.ifCond .ne 15, 3) := by decide +kernel
theorem dL_law__2166 : decode cL_law_ 2166 = .ok (.aload_n 3, 1) := by decide +kernel
theorem dL_law__2167 : decode cL_law_ 2167 = .ok (.iconst 0, 1) := by decide +kernel
theorem dL_law__2168 : decode cL_law_ 2168 = .ok (.laload, 1) := by decide +kernel
