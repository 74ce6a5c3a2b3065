theorem dL_law__1770 : decode cL_law_ 1770 = .ok (.iload 4, 2) := by decide +kernel
theorem dL_law__1772 : decode cL_law_ 1772 = .ok (.iconst 1, 1) := by decide +kernel
theorem dL_law__1773 : decode cL_law_ 1773 = .ok (.iadd, 1) := by decide +kernel
theorem dL_law__1774 : decode cL_law_ 1774 = .ok (.iaload, 1) := by decide +kernel
theorem dL_law__1775 : decode cL_law_ 1775 = .ok (.aload_n 0, 1) := by decide +kernel
theorem dL_law__1776 : decode cL_law_ 1776 = .ok (.iload 4, 2) := by decide +kernel
theorem dL_law__1778 : decode cL_law_ 1778 = .ok (.iconst 2, 1) := by decide +kernel
theorem dL_law__1779 : decode cL_law_ 1779 = .ok (.iadd, 1) := by decide +kernel
theorem dL_law__1780 : decode cL_law_ 1780 = .ok (.iaload, 1) := by decide +kernel
theorem dL_law__1781 : decode cL_law_ 1781 = .ok (.aload_n 3, 1) := by decide +kernel
theorem dL_law__1782 : decode cL_law_ 1782 = .ok (.invokestatic 216, 3) := by decide +kernel
theorem dL_law__1785 : decode cL_law_ 1785 = .ok (.istore 5, 2) := by decide +kernel
theorem dL_law__1787 : decode cL_law_ 1787 = .ok (.aload_n 2, 1) := by decide +kernel
theorem dL_law__1788 : decode cL_law_ 1788 = .ok (.aload_n 0, 1) := by decide +kernel
theorem dL_law__1789 : decode cL_law_ 1789 = .ok (.iload 4, 2) := by decide +kernel
theorem dL_law__1791 : decode cL_law_ 1791 = .ok (.iconst 1, 1) := by decide +kernel
theorem dL_law__1792 : decode cL_law_ 1792 = .ok (.iadd, 1) := by decide +kernel
theorem dL_law__1793 : decode cL_law_ 1793 = .ok (.iaload, 1) := by decide +kernel
theorem dL_law__1794 : decode cL_law_ 1794 = .ok (.aload_n 0, 1) := by decide +kernel
theorem dL_law__1795 : decode cL_law_ 1795 = .ok (.iload 4, 2) := by decide +kernel
theorem dL_law__1797 : decode cL_law_ 1797 = .ok (.iconst 2, 1) := by decide +kernel
theorem dL_law__1798 : decode cL_law_ 1798 = .ok (.iadd, 1) := by decide +kernel
theorem dL_law__1799 : decode cL_law_ 1799 = .ok (.iaload, 1) := by decide +kernel
theorem dL_law__1800 : decode cL_law_ 1800 = .ok (.invokevirtual 218, 3) := by decide +kernel
theorem dL_law__1803 : decode cL_law_ 1803 = .ok (.istore 6, 2) := by decide +kernel
theorem dL_law__1805 : decode cL_law_ 1805 = .ok (.aload_n 2, 1) := by decide +kernel
theorem dL_law__1806 : decode cL_law_ 1806 = .ok (.invokevirtual 133, 3) := by decide +kernel
theorem dL_law__1809 : decode cL_law_ 1809 = .ok (.iload 5, 2) := by decide +kernel
theorem dL_law__1811 : decode cL_law_ 1811 = .ok (.if_icmp .eq 5, 3) := by decide +kernel
theorem dL_law__1814 : decode cL_law_ 1814 = .ok (.iconst 0, 1) := by decide +kernel
theorem dL_law__1815 : decode cL_law_ 1815 = .ok (.ireturn, 1) := by decide +kernel
theorem dL_law__1816 : decode cL_law_ 1816 = .ok (.iload 5, 2) := by decide +kernel
theorem dL_law__1818 : decode cL_law_ 1818 = .ok (.ifCond .ne 15, 3) := by decide +kernel
theorem dL_law__1821 : decode cL_law_ 1821 = .ok (.aload_n 3, 1) := by decide +kernel
theorem dL_law__1822 : decode cL_law_ 1822 = .ok (.iconst 0, 1) := by decide +kernel
theorem dL_law__1823 : decode cL_law_ 1823 = .ok (.laload, 1) := by decide +kernel
theorem dL_law__1824 : decode cL_law_ 1824 = .ok (.iload 6, 2) := by decide +kernel
theorem dL_law__1826 : decode cL_law_ 1826 = .ok (.i2l, 1) := by decide +kernel
theorem dL_law__1827 : decode cL_law_ 1827 = .ok (.lcmp, 1) := by decide +kernel
theorem dL_law__1828 : decode cL_law_ 1828 = .ok (.ifCond .eq 5, 3) := by decide +kernel
theorem dL_law__1831 : decode cL_law_ 1831 = .ok (.iconst 0, 1) := by decide +kernel
theorem dL_law__1832 : decode cL_law_ 1832 = .ok (.ireturn, 1) := by decide +kernel
theorem dL_law__1833 : decode cL_law_ 1833 = .ok (.goto 900, 3) := by decide +kernel
theorem dL_law__1836 : decode cL_law_ 1836 = .ok (.aload_n 1, 1) := by decide +kernel
theorem dL_law__1837 : decode cL_law_ 1837 = .ok (.aload_n 0, 1) := by decide +kernel
theorem dL_law__1838 : decode cL_law_ 1838 = .ok (.iload 4, 2) := by decide +kernel
theorem dL_law__1840 : decode cL_law_ 1840 = .ok (.iconst 1, 1) := by decide +kernel
theorem dL_law__1841 : decode cL_law_ 1841 = .ok (.iadd, 1) := by decide +kernel
theorem dL_law__1842 : decode cL_law_ 1842 = .ok (.iaload, 1) := by decide +kernel
theorem dL_law__1843 : decode cL_law_ 1843 = .ok (.aload_n 3, 1) := by decide +kernel
theorem dL_law__1844 : decode cL_law_ 1844 = .ok (.invokestatic 219, 3) := by decide +kernel
theorem dL_law__1847 : decode cL_law_ 1847 = .ok (.istore 5, 2) := by decide +kernel
theorem dL_law__1849 : decode cL_law_ 1849 = .ok (.aload_n 2, 1) := by decide +kernel
theorem dL_law__1850 : decode cL_law_ 1850 = .ok (.aload_n 0, 1) := by decide +kernel
theorem dL_law__1851 : decode cL_law_ 1851 = .ok (.iload 4, 2) := by decide +kernel
theorem dL_law__1853 : decode cL_law_ 1853 = .ok (.iconst 1, 1) := by decide +kernel
theorem dL_law__1854 : decode cL_law_ 1854 = .ok (.iadd, 1) := by decide +kernel
theorem dL_law__1855 : decode cL_law_ 1855 = .ok (.iaload, 1) := by decide +kernel
theorem dL_law__1856 : decode cL_law_ 1856 = .ok (.invokevirtual 221, 3) := by decide +kernel
theorem dL_law__1859 : decode cL_law_ 1859 = .ok (.istore 6, 2) := by decide +kernel
theorem dL_law__1861 : decode cL_law_ 1861 = .ok (.aload_n 2, 1) := by decide +kernel
theorem dL_law__1862 : decode cL_law_ 1862 = .ok (.invokevirtual 133, 3) := by decide +kernel
theorem dL_law__1865 : decode cL_law_ 1865 = .ok (.iload 5, 2) := by decide +kernel
theorem dL_law__1867 : decode cL_law_ 1867 = .ok (.if_icmp .eq 5, 3) := by decide +kernel
theorem dL_law__1870 : decode cL_law_ 1870 = .ok (.iconst 0, 1) := by decide +kernel
theorem dL_law__1871 : decode cL_law_ 1871 = .ok (.ireturn, 1) := by decide +kernel
theorem dL_law__1872 : decode cL_law_ 1872 = .ok (.iload 5, 2) := by decide +kernel
theorem dL_law__1874 : decode cL_law_ 1874 = .ok (.ifCond .ne 15, 3) := by decide +kernel
theorem dL_law__1877 : decode cL_law_ 1877 = .ok (.aload_n 3, 1) := by decide +kernel
theorem dL_law__1878 : decode cL_law_ 1878 = .ok (.iconst 0, 1) := by decide +kernel
theorem dL_law__1879 : decode cL_law_ 1879 = .ok (.laload, 1) := by decide +kernel
theorem dL_law__1880 : decode cL_law_ 1880 = .ok (.iload 6, 2) := by decide +kernel
theorem dL_law__1882 : decode cL_law_ 1882 = .ok (.i2l, 1) := by decide +kernel
theorem dL_law__1883 : decode cL_law_ 1883 = .ok (.lcmp, 1) := by decide +kernel
theorem dL_law__1884 : decode cL_law_ 1884 = .ok (.ifCond .eq 5, 3) := by decide +kernel
theorem dL_law__1887 : decode cL_law_ 1887 = .ok (.iconst 0, 1) := by decide +kernel
theorem dL_law__1888 : decode cL_law_ 1888 = .ok (.ireturn, 1) := by decide +kernel
theorem dL_law__1889 : decode cL_law_ 1889 = .ok (.goto 844, 3) := by decide +kernel
theorem dL_law__1892 : decode cL_law_ 1892 = .ok (.aload_n 1, 1) := by decide +kernel
theorem dL_law__1893 : decode cL_law_ 1893 = .ok (.aload_n 0, 1) := by decide +kernel
theorem dL_law__1894 : decode cL_law_ 1894 = .ok (.iload 4, 2) := by decide +kernel
theorem dL_law__1896 : decode cL_law_ 1896 = .ok (.iconst 1, 1) := by decide +kernel
theorem dL_law__1897 : decode cL_law_ 1897 = .ok (.iadd, 1) := by decide +kernel
theorem dL_law__1898 : decode cL_law_ 1898 = .ok (.iaload, 1) := by decide +kernel
theorem dL_law__1899 : decode cL_law_ 1899 = .ok (.aload_n 0, 1) := by decide +kernel
theorem dL_law__1900 : decode cL_law_ 1900 = .ok (.iload 4, 2) := by decide +kernel
theorem dL_law__1902 : decode cL_law_ 1902 = .ok (.iconst 2, 1) := by decide +kernel
theorem dL_law__1903 : decode cL_law_ 1903 = .ok (.iadd, 1) := by decide +kernel
theorem dL_law__1904 : decode cL_law_ 1904 = .ok (.iaload, 1) := by decide +kernel
theorem dL_law__1905 : decode cL_law_ 1905 = .ok (.aload_n 3, 1) := by decide +kernel
theorem dL_law__1906 : decode cL_law_ 1906 = .ok (.invokestatic 222, 3) := by decide +kernel
theorem dL_law__1909 : decode cL_law_ 1909 = .ok (.istore 5, 2) := by decide +kernel
theorem dL_law__1911 : decode cL_law_ 1911 = .ok (.aload_n 2, 1) := by decide +kernel
theorem dL_law__1912 : decode cL_law_ 1912 = .ok (.aload_n 0, 1) := by decide +kernel
theorem dL_law__1913 : decode cL_law_ 1913 = .ok (.iload 4, 2) := by decide +kernel
theorem dL_law__1915 : decode cL_law_ 1915 = .ok (.iconst 1, 1) := by decide +kernel
theorem dL_law__1916 : decode cL_law_ 1916 = .ok (.iadd, 1) := by decide +kernel
theorem dL_law__1917 : decode cL_law_ 1917 = .ok (.iaload, 1) := by decide +kernel
theorem dL_law__1918 : decode cL_law_ 1918 = .ok (.aload_n 0, 1) := by decide +kernel
theorem dL_law__1919 : decode cL_law_ 1919 = .ok (.iload 4, 2) := by decide +kernel
theorem dL_law__1921 : decode cL_law_ 1921 = .ok (.iconst 2, 1) := by decide +kernel
theorem dL_law__1922 : decode cL_law_ 1922 = .ok (.iadd, 1) := by decide +kernel
theorem dL_law__1923 : decode cL_law_ 1923 = .ok (.iaload, 1) := by decide +kernel
theorem dL_law__1924 : decode cL_law_ 1924 = .ok (.invokevirtual 224, 3) := by decide +kernel
theorem dL_law__1927 : decode cL_law_ 1927 = .ok (.istore 6, 2) := by decide +kernel
theorem dL_law__1929 : decode cL_law_ 1929 = .ok (.aload_n 2, 1) := by decide +kernel
theorem dL_law__1930 : decode cL_law_ 1930 = .ok (.invokevirtual 133, 3) := by decide +kernel
theorem dL_law__1933 : decode cL_law_ 1933 = .ok (.iload 5, 2) := by decide +kernel
theorem dL_law__1935 : decode cL_law_ 1935 = .ok (.if_icmp .eq 5, 3) := by decide +kernel
theorem dL_law__1938 : decode cL_law_ 1938 = .ok (.iconst 0, 1) := by decide +kernel
theorem dL_law__1939 : decode cL_law_ 1939 = .ok (.ireturn, 1) := by decide +kernel
theorem dL_law__1940 : decode cL_law_ 1940 = .ok (.iload 5, 2) := by decide +kernel
theorem dL_law__1942 : decode cL_law_ 1942 = .ok (.ifCond .ne 15, 3) := by decide +kernel
theorem dL_law__1945 : decode cL_law_ 1945 = .ok (.aload_n 3, 1) := by decide +kernel
theorem dL_law__1946 : decode cL_law_ 1946 = .ok (.iconst 0, 1) := by decide +kernel
theorem dL_law__1947 : decode cL_law_ 1947 = .ok (.laload, 1) := by decide +kernel
theorem dL_law__1948 : decode cL_law_ 1948 = .ok (.iload 6, 2) := by decide +kernel
theorem dL_law__1950 : decode cL_law_ 1950 = .ok (.i2l, 1) := by decide +kernel
theorem dL_law__1951 : decode cL_law_ 1951 = .ok (.lcmp, 1) := by decide +kernel
theorem dL_law__1952 : decode cL_law_ 1952 = .ok (.ifCond .eq 5, 3) := by decide +kernel
theorem dL_law__1955 : decode cL_law_ 1955 = .ok (.iconst 0, 1) := by decide +kernel
theorem dL_law__1956 : decode cL_law_ 1956 = .ok (.ireturn, 1) := by decide +kernel
theorem dL_law__1957 : decode cL_law_ 1957 = .ok (.goto 776, 3) := by decide +kernel
theorem dL_law__1960 : decode cL_law_ 1960 = .ok (.aload_n 1, 1) := by decide +kernel
theorem dL_law__1961 : decode cL_law_ 1961 = .ok (.aload_n 0, 1) := by decide +kernel
theorem dL_law__1962 : decode cL_law_ 1962 = .ok (.iload 4, 2) := by decide +kernel
theorem dL_law__1964 : decode cL_law_ 1964 = .ok (.iconst 1, 1) := by decide +kernel
theorem dL_law__1965 : decode cL_law_ 1965 = .ok (.iadd, 1) := by decide +kernel
theorem dL_law__1966 : decode cL_law_ 1966 = .ok (.iaload, 1) := by decide +kernel
theorem dL_law__1967 : decode cL_law_ 1967 = .ok (.aload_n 0, 1) := by decide +kernel
theorem dL_law__1968 : decode cL_law_ 1968 = .ok (.iload 4, 2) := by decide +kernel
theorem dL_law__1970 : decode cL_law_ 1970 = .ok (.iconst 2, 1) := by decide +kernel
theorem dL_law__1971 : decode cL_law_ 1971 = .ok (.iadd, 1) := by decide +kernel
theorem dL_law__1972 : decode cL_law_ 1972 = .ok (.iaload, 1) := by decide +kernel
theorem dL_law__1973 : decode cL_law_ 1973 = .ok (.aload_n 0, 1) := by decide +kernel
theorem dL_law__1974 : decode cL_law_ 1974 = .ok (.iload 4, 2) := by decide +kernel
theorem dL_law__1976 : decode cL_law_ 1976 = .ok (.iconst 3, 1) := by decide +kernel
theorem dL_law__1977 : decode cL_law_ 1977 = .ok (.iadd, 1) := by decide +kernel
theorem dL_law__1978 : decode cL_law_ 1978 = .ok (.iaload, 1) := by decide +kernel
theorem dL_law__1979 : decode cL_law_ 1979 = .ok (.aload_n 0, 1) := by decide +kernel
theorem dL_law__1980 : decode cL_law_ 1980 = .ok (.iload 4, 2) := by decide +kernel
theorem dL_law__1982 : decode cL_law_ 1982 = .ok (.iconst 4, 1) := by decide +kernel
theorem dL_law__1983 : decode cL_law_ 1983 = .ok (.iadd, 1) := by decide +kernel
theorem dL_law__1984 : decode cL_law_ 1984 = .ok (.iaload, 1) := by decide +kernel
theorem dL_law__1985 : decode cL_law_ 1985 = .ok (.aload_n 3, 1) := by decide +kernel
theorem dL_law__1986 : decode cL_law_ 1986 = .ok (.invokestatic 225, 3) := by decide +kernel
theorem dL_law__1989 : decode cL_law_ 1989 = .ok (.istore 5, 2) := by decide +kernel
theorem dL_law__1991 : decode cL_law_ 1991 = .ok (.aload_n 2, 1) := by decide +kernel
theorem dL_law__1992 : decode cL_law_ 1992 = .ok (.aload_n 0, 1) := by decide +kernel
theorem dL_law__1993 : decode cL_law_ 1993 = .ok (.iload 4, 2) := by decide +kernel
theorem dL_law__1995 : decode cL_law_ 1995 = .ok (.iconst 1, 1) := by decide +kernel
theorem dL_law__1996 : decode cL_law_ 1996 = .ok (.iadd, 1) := by decide +kernel
theorem dL_law__1997 : decode cL_law_ 1997 = .ok (.iaload, 1) := by decide +kernel
theorem dL_law__1998 : decode cL_law_ 1998 = .ok (.aload_n 0, 1) := by decide +kernel
theorem dL_law__1999 : decode cL_law_ 1999 = .ok (.iload 4, 2) := by decide +kernel
theorem dL_law__2001 : decode cL_law_ 2001 = .ok (.iconst 2, 1) := by decide +kernel
theorem dL_law__2002 : decode cL_law_ 2002 = .ok (.iadd, 1) := by decide +kernel
theorem dL_law__2003 : decode cL_law_ 2003 = .ok (.iaload, 1) := by decide +kernel
theorem dL_law__2004 : decode cL_law_ 2004 = .ok (.aload_n 0, 1) := by decide +kernel
theorem dL_law__2005 : decode cL_law_ 2005 = .ok (.iload 4, 2) := by decide +kernel
theorem dL_law__2007 : decode cL_law_ 2007 = .ok (.iconst 3, 1) := by decide +kernel
theorem dL_law__2008 : decode cL_law_ 2008 = .ok (.iadd, 1) := by decide +kernel
theorem dL_law__2009 : decode cL_law_ 2009 = .ok (.iaload, 1) := by decide +kernel
theorem dL_law__2010 : decode cL_law_ 2010 = .ok (.aload_n 0, 1) := by decide +kernel
theorem dL_law__2011 : decode cL_law_ 2011 = .ok (.iload 4, 2) := by decide +kernel
theorem dL_law__2013 : decode cL_law_ 2013 = .ok (.iconst 4, 1) := by decide +kernel
theorem dL_law__2014 : decode cL_law_ 2014 = .ok (.iadd, 1) := by decide +kernel
theorem dL_law__2015 : decode cL_law_ 2015 = .ok (.iaload, 1) := by decide +kernel
theorem dL_law__2016 : decode cL_law_ 2016 = .ok (.invokevirtual 227, 3) := by decide +kernel
theorem dL_law__2019 : decode cL_law_ 2019 = .ok (.istore 6, 2) := by decide +kernel
theorem dL_law__2021 : decode cL_law_ 2021 = .ok (.aload_n 2, 1) := by decide +kernel
theorem dL_law__2022 : decode cL_law_ 2022 = .ok (.invokevirtual 133, 3) := by decide +kernel
theorem dL_law__2025 : decode cL_law_ 2025 = .ok (.iload 5, 2) := by decide +kernel
theorem dL_law__2027 : decode cL_law_ 2027 = .ok (.if_icmp .eq 5, 3) := by decide +kernel
theorem dL_law__2030 : decode cL_law_ 2030 = .ok (.iconst 0, 1) := by decide +kernel
theorem dL_law__2031 : decode cL_law_ 2031 = .ok (.ireturn, 1) := by decide +kernel
theorem dL_law__2032 : decode cL_law_ 2032 = .ok (.iload 5, 2) := by decide +kernel
theorem dL_law__2034 : decode cL_law_ 2034 = .ok (.ifCond .ne 15, 3) := by decide +kernel
theorem dL_law__2037 : decode cL_law_ 2037 = .ok (.aload_n 3, 1) := by decide +kernel
theorem dL_law__2038 : decode cL_law_ 2038 = .ok (.iconst 0, 1) := by decide +kernel
theorem dL_law__2039 : decode cL_law_ 2039 = .ok (.laload, 1) := by decide +kernel
theorem dL_law__2040 : decode cL_law_ 2040 = .ok (.iload 6, 2) := by decide +kernel
theorem dL_law__2042 : decode cL_law_ 2042 = .ok (.i2l, 1) := by decide +kernel
theorem dL_law__2043 : decode cL_law_ 2043 = .ok (.lcmp, 1) := by decide +kernel
theorem dL_law__2044 : decode cL_law_ 2044 = .ok (.ifCond .eq 5, 3) := by decide +kernel
theorem dL_law__2047 : decode cL_law_ 2047 = .ok (.iconst 0, 1) := by decide +kernel
theorem dL_law__2048 : decode cL_law_ 2048 = .ok (.ireturn, 1) := by decide +kernel
theorem dL_law__2049 : decode cL_law_ 2049 = .ok (.goto 684, 3) := by decide +kernel
theorem dL_law__2052 : decode cL_law_ 2052 = .ok (.aload_n 1, 1) := by decide +kernel
theorem dL_law__2053 : decode cL_law_ 2053 = .ok (.aload_n 0, 1) := by decide +kernel
theorem dL_law__2054 : decode cL_law_ 2054 = .ok (.iload 4, 2) := by decide +kernel
theorem dL_law__2056 : decode cL_law_ 2056 = .ok (.iconst 1, 1) := by decide +kernel
theorem dL_law__2057 : decode cL_law_ 2057 = .ok (.iadd, 1) := by decide +kernel
theorem dL_law__2058 : decode cL_law_ 2058 = .ok (.iaload, 1) := by decide +kernel
theorem dL_law__2059 : decode cL_law_ 2059 = .ok (.aload_n 0, 1) := by decide +kernel
theorem dL_law__2060 : decode cL_law_ 2060 = .ok (.iload 4, 2) := by decide +kernel
theorem dL_law__2062 : decode cL_law_ 2062 = .ok (.iconst 2, 1) := by decide +kernel
theorem dL_law__2063 : decode cL_law_ 2063 = .ok (.iadd, 1) := by decide +kernel
theorem dL_law__2064 : decode cL_law_ 2064 = .ok (.iaload, 1) := by decide +kernel
theorem dL_law__2065 : decode cL_law_ 2065 = .ok (.aload_n 0, 1) := by decide +kernel
theorem dL_law__2066 : decode cL_law_ 2066 = .ok (.iload 4, 2) := by decide +kernel
theorem dL_law__2068 : decode cL_law_ 2068 = .ok (.iconst 3, 1) := by decide +kernel
theorem dL_law__2069 : decode cL_law_ 2069 = .ok (.iadd, 1) := by decide +kernel
theorem dL_law__2070 : decode cL_law_ 2070 = .ok (.iaload, 1) := by decide +kernel
theorem dL_law__2071 : decode cL_law_ 2071 = .ok (.aload_n 3, 1) := by decide +kernel
theorem dL_law__2072 : decode cL_law_ 2072 = .ok (.invokestatic 228, 3) := by decide +kernel
theorem dL_law__2075 : decode cL_law_ 2075 = .ok (.istore 5, 2) := by decide +kernel
theorem dL_law__2077 : decode cL_law_ 2077 = .ok (.aload_n 2, 1) := by decide +kernel
theorem dL_law__2078 : decode cL_law_ 2078 = .ok (.aload_n 0, 1) := by decide +kernel
theorem dL_law__2079 : decode cL_law_ 2079 = .ok (.iload 4, 2) := by decide +kernel
theorem dL_law__2081 : decode cL_law_ 2081 = .ok (.iconst 1, 1) := by decide +kernel
theorem dL_law__2082 : decode cL_law_ 2082 = .ok (.iadd, 1) := by decide +kernel
theorem dL_law__2083 : decode cL_law_ 2083 = .ok (.iaload, 1) := by decide +kernel
theorem dL_law__2084 : decode cL_law_ 2084 = .ok (.aload_n 0, 1) := by decide +kernel
theorem dL_law__2085 : decode cL_law_ 2085 = .ok (.iload 4, 2) := by decide +kernel
theorem dL_law__2087 : decode cL_law_ 2087 = .ok (.iconst 2, 1) := by decide +kernel
theorem dL_law__2088 : decode cL_law_ 2088 = .ok (.iadd, 1) := by decide +kernel
theorem dL_law__2089 : decode cL_law_ 2089 = .ok (.iaload, 1) := by decide +kernel
theorem dL_law__2090 : decode cL_law_ 2090 = .ok (.aload_n 0, 1) := by decide +kernel
theorem dL_law__2091 : decode cL_law_ 2091 = .ok (.iload 4, 2) := by decide +kernel
theorem dL_law__2093 : decode cL_law_ 2093 = .ok (.iconst 3, 1) := by decide +kernel
theorem dL_law__2094 : decode cL_law_ 2094 = .ok (.iadd, 1) := by decide +kernel
theorem dL_law__2095 : decode cL_law_ 2095 = .ok (.iaload, 1) := by decide +kernel
theorem dL_law__2096 : decode cL_law_ 2096 = .ok (.invokevirtual 230, 3) := by decide +kernel
theorem dL_law__2099 : decode cL_law_ 2099 = .ok (.istore 6, 2) := by decide +kernel
theorem dL_law__2101 : decode cL_law_ 2101 = .ok (.aload_n 2, 1) := by decide +kernel
theorem dL_law__2102 : decode cL_law_ 2102 = .ok (.invokevirtual 133, 3) := by decide +kernel
theorem dL_law__2105 : decode cL_law_ 2105 = .ok (.iload 5, 2) := by decide +kernel
theorem dL_law__2107 : decode cL_law_ 2107 = .ok (.if_icmp .eq 5, 3) := by decide +kernel
theorem dL_law__2110 : decode cL_law_ 2110 = .ok (.iconst 0, 1) := by decide +kernel
theorem dL_law__2111 : decode cL_law_ 2111 = .ok (.ireturn, 1) := by decide +kernel
theorem dL_law__2112 : decode cL_law_ 2112 = .ok (.iload 5, 2) := by decide +kernel
theorem dL_law__2114 : decode cL_law_ 2114 = .ok (.ifCond .ne 15, 3) := by decide +kernel
theorem dL_law__2117 : decode cL_law_ 2117 = .ok (.aload_n 3, 1) := by decide +kernel
theorem dL_law__2118 : decode cL_law_ 2118 = .ok (.iconst 0, 1) := by decide +kernel
theorem dL_law__2119 : decode cL_law_ 2119 = .ok (.laload, 1) := by decide +kernel
theorem dL_law__2120 : decode cL_law_ 2120 = .ok (.iload 6, 2) := by decide +kernel
theorem dL_law__2122 : decode cL_law_ 2122 = .ok (.i2l, 1) := by decide +kernel
theorem dL_law__2123 : decode cL_law_ 2123 = .ok (.lcmp, 1) := by decide +kernel
theorem dL_law__2124 : decode cL_law_ 2124 = .ok (.ifCond .eq 5, 3) := by decide +kernel
theorem dL_law__2127 : decode cL_law_ 2127 = .ok (.iconst 0, 1) := by decide +kernel
theorem dL_law__2128 : decode cL_law_ 2128 = .ok (.ireturn, 1) := by decide +kernel
theorem dL_law__2129 : decode cL_law_ 2129 = .ok (.goto 604, 3) := by decide +kernel
theorem dL_law__2132 : decode cL_law_ 2132 = .ok (.aload_n 1, 1) := by decide +kernel
theorem dL_law__2133 : decode cL_law_ 2133 = .ok (.aload_n 0, 1) := by decide +kernel
theorem dL_law__2134 : decode cL_law_ 2134 = .ok (.iload 4, 2) := by decide +kernel
theorem dL_law__2136 : decode cL_law_ 2136 = .ok (.iconst 1, 1) := by decide +kernel
theorem dL_law__2137 : decode cL_law_ 2137 = .ok (.iadd, 1) := by decide +kernel
theorem dL_law__2138 : decode cL_law_ 2138 = .ok (.iaload, 1) := by decide +kernel
theorem dL_law__2139 : decode cL_law_ 2139 = .ok (.aload_n 0, 1) := by decide +kernel
theorem dL_law__2140 : decode cL_law_ 2140 = .ok (.iload 4, 2) := by decide +kernel
theorem dL_law__2142 : decode cL_law_ 2142 = .ok (.iconst 2, 1) := by decide +kernel
theorem dL_law__2143 : decode cL_law_ 2143 = .ok (.iadd, 1) := by decide +kernel
theorem dL_law__2144 : decode cL_law_ 2144 = .ok (.iaload, 1) := by decide +kernel
theorem dL_law__2145 : decode cL_law_ 2145 = .ok (.aload_n 3, 1) := by decide +kernel
theorem dL_law__2146 : decode cL_law_ 2146 = .ok (.invokestatic 231, 3) := by decide +kernel
theorem dL_law__2149 : decode cL_law_ 2149 = .ok (.istore 5, 2) := by decide +kernel
theorem dL_law__2151 : decode cL_law_ 2151 = .ok (.aload_n 2, 1) := by decide +kernel
theorem dL_law__2152 : decode cL_law_ 2152 = .ok (.aload_n 0, 1) := by decide +kernel
theorem dL_law__2153 : decode cL_law_ 2153 = .ok (.iload 4, 2) := by decide +kernel
theorem dL_law__2155 : decode cL_law_ 2155 = .ok (.iconst 1, 1) := by decide +kernel
theorem dL_law__2156 : decode cL_law_ 2156 = .ok (.iadd, 1) := by decide +kernel
theorem dL_law__2157 : decode cL_law_ 2157 = .ok (.iaload, 1) := by decide +kernel
theorem dL_law__2158 : decode cL_law_ 2158 = .ok (.aload_n 0, 1) := by decide +kernel
theorem dL_law__2159 : decode cL_law_ 2159 = .ok (.iload 4, 2) := by decide +kernel
theorem dL_law__2161 : decode cL_law_ 2161 = .ok (.iconst 2, 1) := by decide +kernel
theorem dL_law__2162 : decode cL_law_ 2162 = .ok (.iadd, 1) := by decide +kernel
theorem dL_law__2163 : decode cL_law_ 2163 = .ok (.iaload, 1) := by decide +kernel
theorem dL_law__2164 : decode cL_law_ 2164 = .ok (.invokevirtual 233, 3) := by decide +kernel
theorem dL_law__2167 : decode cL_law_ 2167 = .ok (.istore 6, 2) := by decide +kernel
theorem dL_law__2169 : decode cL_law_ 2169 = .ok (.aload_n 2, 1) := by decide +kernel
theorem dL_law__2170 : decode cL_law_ 2170 = .ok (.invokevirtual 133, 3) := by decide +kernel
theorem dL_law__2173 : decode cL_law_ 2173 = .ok (.iload 5, 2) := by decide +kernel
theorem dL_law__2175 : decode cL_law_ 2175 = .ok (.if_icmp .eq 5, 3) := by decide +kernel
theorem dL_law__2178 : decode cL_law_ 2178 = .ok (.iconst 0, 1) := by decide +kernel
theorem dL_law__2179 : decode cL_law_ 2179 = .ok (.ireturn, 1) := by decide +kernel
theorem dL_law__2180 : decode cL_law_ 2180 = .ok (.iload 5, 2) := by decide +kernel
theorem dL_law__2182 : decode cL_law_ 2182 = .ok (.ifCond .ne 15, 3) := by decide +kernel
theorem dL_law__2185 : decode cL_law_ 2185 = .ok (.aload_n 3, 1) := by decide +kernel
theorem dL_law__2186 : decode cL_law_ 2186 = .ok (.iconst 0, 1) := by decide +kernel
theorem dL_law__2187 : decode cL_law_ 2187 = .ok (.laload, 1) := by decide +kernel
theorem dL_law__2188 : decode cL_law_ 2188 = .ok (.iload 6, 2) := by decide +kernel
theorem dL_law__2190 : decode cL_law_ 2190 = .ok (.i2l, 1) := by decide +kernel
theorem dL_law__2191 : decode cL_law_ 2191 = .ok (.lcmp, 1) := by decide +kernel
theorem dL_law__2192 : decode cL_law_ 2192 = .ok (.ifCond .eq 5, 3) := by decide +kernel
theorem dL_law__2195 : decode cL_law_ 2195 = .ok (.iconst 0, 1) := by decide +kernel
theorem dL_law__2196 : decode cL_law_ 2196 = .ok (.ireturn, 1) := by decide +kernel
theorem dL_law__2197 : decode cL_law_ 2197 = .ok (.goto 536, 3) := by decide +kernel
theorem dL_law__2200 : decode cL_law_ 2200 = .ok (.aload_n 1, 1) := by decide +kernel
theorem dL_law__2201 : decode cL_law_ 2201 = .ok (.aload_n 0, 1) := by decide +kernel
theorem dL_law__2202 : decode cL_law_ 2202 = .ok (.iload 4, 2) := by decide +kernel
theorem dL_law__2204 : decode cL_law_ 2204 = .ok (.iconst 1, 1) := by decide +kernel
theorem dL_law__2205 : decode cL_law_ 2205 = .ok (.iadd, 1) := by decide +kernel
theorem dL_law__2206 : decode cL_law_ 2206 = .ok (.iaload, 1) := by decide +kernel
theorem dL_law__2207 : decode cL_law_ 2207 = .ok (.aload_n 0, 1) := by decide +kernel
theorem dL_law__2208 : decode cL_law_ 2208 = .ok (.iload 4, 2) := by decide +kernel
theorem dL_law__2210 : decode cL_law_ 2210 = .ok (.iconst 2, 1) := by decide +kernel
theorem dL_law__2211 : decode cL_law_ 2211 = .ok (.iadd, 1) := by decide +kernel
theorem dL_law__2212 : decode cL_law_ 2212 = .ok (.iaload, 1) := by decide +kernel
theorem dL_law__2213 : decode cL_law_ 2213 = .ok (.aload_n 3, 1) := by decide +kernel
theorem dL_law__2214 : decode cL_law_ 2214 = .ok (.invokestatic 234, 3) := by decide +kernel
theorem dL_law__2217 : decode cL_law_ 2217 = .ok (.istore 5, 2) := by decide +kernel
theorem dL_law__2219 : decode cL_law_ 2219 = .ok (.aload_n 2, 1) := by decide +kernel
theorem dL_law__2220 : decode cL_law_ 2220 = .ok (.aload_n 0, 1) := by decide +kernel
theorem dL_law__2221 : decode cL_law_ 2221 = .ok (.iload 4, 2) := by decide +kernel
theorem dL_law__2223 : decode cL_law_ 2223 = .ok (.iconst 1, 1) := by decide +kernel
theorem dL_law__2224 : decode cL_law_ 2224 = .ok (.iadd, 1) := by decide +kernel
theorem dL_law__2225 : decode cL_law_ 2225 = .ok (.iaload, 1) := by decide +kernel
theorem dL_law__2226 : decode cL_law_ 2226 = .ok (.aload_n 0, 1) := by decide +kernel
theorem dL_law__2227 : decode cL_law_ 2227 = .ok (.iload 4, 2) := by decide +kernel
theorem dL_law__2229 : decode cL_law_ 2229 = .ok (.iconst 2, 1) := by decide +kernel
theorem dL_law__2230 : decode cL_law_ 2230 = .ok (.iadd, 1) := by decide +kernel
theorem dL_law__2231 : decode cL_law_ 2231 = .ok (.iaload, 1) := by decide +kernel
theorem dL_law__2232 : decode cL_law_ 2232 = .ok (.invokevirtual 236, 3) := by decide +kernel
theorem dL_law__2235 : decode cL_law_ 2235 = .ok (.istore 6, 2) := by decide +kernel
theorem dL_law__2237 : decode cL_law_ 2237 = .ok (.aload_n 2, 1) := by decide +kernel
theorem dL_law__2238 : decode cL_law_ 2238 = .ok (.invokevirtual 133, 3) := by decide +kernel
theorem dL_law__2241 : decode cL_law_ 2241 = .ok (.iload 5, 2) := by decide +kernel
theorem dL_law__2243 : decode cL_law_ 2243 = .ok (.if_icmp .eq 5, 3) := by decide +kernel
theorem dL_law__2246 : decode cL_law_ 2246 = .ok (.iconst 0, 1) := by decide +kernel
theorem dL_law__2247 : decode cL_law_ 2247 = .ok (.ireturn, 1) := by decide +kernel
theorem dL_law__2248 : decode cL_law_ 2248 = .ok (.iload 5, 2) := by decide +kernel
theorem dL_law__2250 : decode cL_law_ 2250 = .ok (.ifCond .ne 22, 3) := by decide +kernel
theorem dL_law__2253 : decode cL_law_ 2253 = .ok (.aload_n 3, 1) := by decide +kernel
theorem dL_law__2254 : decode cL_law_ 2254 = .ok (.iconst 0, 1) := by decide +kernel
theorem dL_law__2255 : decode cL_law_ 2255 = .ok (.laload, 1) := by decide +kernel
theorem dL_law__2256 : decode cL_law_ 2256 = .ok (.iload 6, 2) := by decide +kernel
theorem dL_law__2258 : decode cL_law_ 2258 = .ok (.ifCond .eq 7, 3) := by decide +kernel
theorem dL_law__2261 : decode cL_law_ 2261 = .ok (.lconst 1, 1) := by decide +kernel
theorem dL_law__2262 : decode cL_law_ 2262 = .ok (.goto 4, 3) := by decide +kernel
theorem dL_law__2265 : decode cL_law_ 2265 = .ok (.lconst 0, 1) := by decide +kernel
theorem dL_law__2266 : decode cL_law_ 2266 = .ok (.lcmp, 1) := by decide +kernel
theorem dL_law__2267 : decode cL_law_ 2267 = .ok (.ifCond .eq 5, 3) := by decide +kernel
theorem dL_law__2270 : decode cL_law_ 2270 = .ok (.iconst 0, 1) := by decide +kernel
theorem dL_law__2271 : decode cL_law_ 2271 = .ok (.ireturn, 1) := by decide +kernel
theorem dL_law__2272 : decode cL_law_ 2272 = .ok (.goto 461, 3) := by decide +kernel
theorem dL_law__2275 : decode cL_law_ 2275 = .ok (.aload_n 1, 1) := by decide +kernel
theorem dL_law__2276 : decode cL_law_ 2276 = .ok (.aload_n 0, 1) := by decide +kernel
theorem dL_law__2277 : decode cL_law_ 2277 = .ok (.iload 4, 2) := by decide +kernel
theorem dL_law__2279 : decode cL_law_ 2279 = .ok (.iconst 1, 1) := by decide +kernel
theorem dL_law__2280 : decode cL_law_ 2280 = .ok (.iadd, 1) := by decide +kernel
theorem dL_law__2281 : decode cL_law_ 2281 = .ok (.iaload, 1) := by decide +kernel
theorem dL_law__2282 : decode cL_law_ 2282 = .ok (.aload_n 0, 1) := by decide +kernel
theorem dL_law__2283 : decode cL_law_ 2283 = .ok (.iload 4, 2) := by decide +kernel
theorem dL_law__2285 : decode cL_law_ 2285 = .ok (.iconst 2, 1) := by decide +kernel
theorem dL_law__2286 : decode cL_law_ 2286 = .ok (.iadd, 1) := by decide +kernel
theorem dL_law__2287 : decode cL_law_ 2287 = .ok (.iaload, 1) := by decide +kernel
theorem dL_law__2288 : decode cL_law_ 2288 = .ok (.aload_n 0, 1) := by decide +kernel
theorem dL_law__2289 : decode cL_law_ 2289 = .ok (.iload 4, 2) := by decide +kernel
theorem dL_law__2291 : decode cL_law_ 2291 = .ok (.iconst 3, 1) := by decide +kernel
