section
/-! laid by wip/hand/lw.py: cases of the law -/
theorem te_368_1811 : (pT M_368).find? (fun e => e.1 == 1811) = some (1811, .aload_n 1, 0, 0) := (sk_94 1811 rfl).trans rfl
theorem te_368_1812 : (pT M_368).find? (fun e => e.1 == 1812) = some (1812, .aload_n 0, 0, 0) := (sk_94 1812 rfl).trans rfl
theorem te_368_1813 : (pT M_368).find? (fun e => e.1 == 1813) = some (1813, .iload 4, 0, 0) := (sk_94 1813 rfl).trans rfl
theorem te_368_1815 : (pT M_368).find? (fun e => e.1 == 1815) = some (1815, .iconst 1, 0, 0) := (sk_94 1815 rfl).trans rfl
theorem te_368_1816 : (pT M_368).find? (fun e => e.1 == 1816) = some (1816, .iadd, 0, 0) := (sk_94 1816 rfl).trans rfl
theorem te_368_1817 : (pT M_368).find? (fun e => e.1 == 1817) = some (1817, .iaload, 0, 0) := (sk_94 1817 rfl).trans rfl
theorem te_368_1818 : (pT M_368).find? (fun e => e.1 == 1818) = some (1818, .ifCond .eq 7, 0, 0) := (sk_94 1818 rfl).trans rfl
theorem te_368_1821 : (pT M_368).find? (fun e => e.1 == 1821) = some (1821, .iconst 1, 0, 0) := (sk_94 1821 rfl).trans rfl
theorem te_368_1822 : (pT M_368).find? (fun e => e.1 == 1822) = some (1822, .goto 4, 0, 0) := (sk_94 1822 rfl).trans rfl
theorem te_368_1825 : (pT M_368).find? (fun e => e.1 == 1825) = some (1825, .iconst 0, 0, 0) := (sk_94 1825 rfl).trans rfl
theorem te_368_1826 : (pT M_368).find? (fun e => e.1 == 1826) = some (1826, .aload_n 3, 0, 0) := (sk_94 1826 rfl).trans rfl
theorem te_368_1827 : (pT M_368).find? (fun e => e.1 == 1827) = some (1827, .invokestatic 293, 187, 8) := (sk_94 1827 rfl).trans rfl
theorem te_368_1830 : (pT M_368).find? (fun e => e.1 == 1830) = some (1830, .istore 5, 0, 0) := (sk_95 1830 rfl).trans rfl
theorem te_368_1832 : (pT M_368).find? (fun e => e.1 == 1832) = some (1832, .aload_n 2, 0, 0) := (sk_95 1832 rfl).trans rfl
theorem te_368_1833 : (pT M_368).find? (fun e => e.1 == 1833) = some (1833, .aload_n 0, 0, 0) := (sk_95 1833 rfl).trans rfl
theorem te_368_1834 : (pT M_368).find? (fun e => e.1 == 1834) = some (1834, .iload 4, 0, 0) := (sk_95 1834 rfl).trans rfl
theorem te_368_1836 : (pT M_368).find? (fun e => e.1 == 1836) = some (1836, .iconst 1, 0, 0) := (sk_95 1836 rfl).trans rfl
theorem te_368_1837 : (pT M_368).find? (fun e => e.1 == 1837) = some (1837, .iadd, 0, 0) := (sk_95 1837 rfl).trans rfl
theorem te_368_1838 : (pT M_368).find? (fun e => e.1 == 1838) = some (1838, .iaload, 0, 0) := (sk_95 1838 rfl).trans rfl
theorem te_368_1839 : (pT M_368).find? (fun e => e.1 == 1839) = some (1839, .ifCond .eq 7, 0, 0) := (sk_95 1839 rfl).trans rfl
theorem te_368_1842 : (pT M_368).find? (fun e => e.1 == 1842) = some (1842, .iconst 1, 0, 0) := (sk_95 1842 rfl).trans rfl
theorem te_368_1843 : (pT M_368).find? (fun e => e.1 == 1843) = some (1843, .goto 4, 0, 0) := (sk_95 1843 rfl).trans rfl
theorem te_368_1846 : (pT M_368).find? (fun e => e.1 == 1846) = some (1846, .iconst 0, 0, 0) := (sk_95 1846 rfl).trans rfl
theorem te_368_1847 : (pT M_368).find? (fun e => e.1 == 1847) = some (1847, .invokevirtual 296, 343, 0) := (sk_95 1847 rfl).trans rfl
theorem te_368_1850 : (pT M_368).find? (fun e => e.1 == 1850) = some (1850, .istore 6, 0, 0) := (sk_96 1850 rfl).trans rfl
theorem te_368_1852 : (pT M_368).find? (fun e => e.1 == 1852) = some (1852, .goto 492, 0, 0) := (sk_96 1852 rfl).trans rfl
theorem te_368_1855 : (pT M_368).find? (fun e => e.1 == 1855) = some (1855, .aload_n 1, 0, 0) := (sk_96 1855 rfl).trans rfl
theorem te_368_1856 : (pT M_368).find? (fun e => e.1 == 1856) = some (1856, .aload_n 3, 0, 0) := (sk_96 1856 rfl).trans rfl
theorem te_368_1857 : (pT M_368).find? (fun e => e.1 == 1857) = some (1857, .invokestatic 297, 189, 8) := (sk_96 1857 rfl).trans rfl
theorem te_368_1860 : (pT M_368).find? (fun e => e.1 == 1860) = some (1860, .istore 5, 0, 0) := (sk_96 1860 rfl).trans rfl
theorem te_368_1862 : (pT M_368).find? (fun e => e.1 == 1862) = some (1862, .aload_n 2, 0, 0) := (sk_96 1862 rfl).trans rfl
theorem te_368_1863 : (pT M_368).find? (fun e => e.1 == 1863) = some (1863, .invokevirtual 299, 348, 0) := (sk_96 1863 rfl).trans rfl
theorem te_368_1866 : (pT M_368).find? (fun e => e.1 == 1866) = some (1866, .istore 6, 0, 0) := (sk_96 1866 rfl).trans rfl
theorem te_368_1868 : (pT M_368).find? (fun e => e.1 == 1868) = some (1868, .goto 476, 0, 0) := (sk_96 1868 rfl).trans rfl
theorem te_368_1871 : (pT M_368).find? (fun e => e.1 == 1871) = some (1871, .aload_n 1, 0, 0) := (sk_96 1871 rfl).trans rfl
theorem te_368_1872 : (pT M_368).find? (fun e => e.1 == 1872) = some (1872, .aload_n 0, 0, 0) := (sk_96 1872 rfl).trans rfl
theorem te_368_1873 : (pT M_368).find? (fun e => e.1 == 1873) = some (1873, .iload 4, 0, 0) := (sk_97 1873 rfl).trans rfl
theorem te_368_1875 : (pT M_368).find? (fun e => e.1 == 1875) = some (1875, .iconst 1, 0, 0) := (sk_97 1875 rfl).trans rfl
theorem te_368_1876 : (pT M_368).find? (fun e => e.1 == 1876) = some (1876, .iadd, 0, 0) := (sk_97 1876 rfl).trans rfl
theorem te_368_1877 : (pT M_368).find? (fun e => e.1 == 1877) = some (1877, .iaload, 0, 0) := (sk_97 1877 rfl).trans rfl
theorem te_368_1878 : (pT M_368).find? (fun e => e.1 == 1878) = some (1878, .aload_n 3, 0, 0) := (sk_97 1878 rfl).trans rfl
theorem te_368_1879 : (pT M_368).find? (fun e => e.1 == 1879) = some (1879, .invokestatic 300, 191, 8) := (sk_97 1879 rfl).trans rfl
theorem te_368_1882 : (pT M_368).find? (fun e => e.1 == 1882) = some (1882, .istore 5, 0, 0) := (sk_97 1882 rfl).trans rfl
theorem te_368_1884 : (pT M_368).find? (fun e => e.1 == 1884) = some (1884, .aload_n 2, 0, 0) := (sk_97 1884 rfl).trans rfl
theorem te_368_1885 : (pT M_368).find? (fun e => e.1 == 1885) = some (1885, .aload_n 0, 0, 0) := (sk_97 1885 rfl).trans rfl
theorem te_368_1886 : (pT M_368).find? (fun e => e.1 == 1886) = some (1886, .iload 4, 0, 0) := (sk_97 1886 rfl).trans rfl
theorem te_368_1888 : (pT M_368).find? (fun e => e.1 == 1888) = some (1888, .iconst 1, 0, 0) := (sk_97 1888 rfl).trans rfl
theorem te_368_1889 : (pT M_368).find? (fun e => e.1 == 1889) = some (1889, .iadd, 0, 0) := (sk_97 1889 rfl).trans rfl
theorem te_368_1890 : (pT M_368).find? (fun e => e.1 == 1890) = some (1890, .iaload, 0, 0) := (sk_98 1890 rfl).trans rfl
theorem te_368_1891 : (pT M_368).find? (fun e => e.1 == 1891) = some (1891, .invokevirtual 302, 349, 0) := (sk_98 1891 rfl).trans rfl
theorem te_368_1894 : (pT M_368).find? (fun e => e.1 == 1894) = some (1894, .istore 6, 0, 0) := (sk_98 1894 rfl).trans rfl
theorem te_368_1896 : (pT M_368).find? (fun e => e.1 == 1896) = some (1896, .goto 448, 0, 0) := (sk_98 1896 rfl).trans rfl
theorem te_368_1899 : (pT M_368).find? (fun e => e.1 == 1899) = some (1899, .aload_n 1, 0, 0) := (sk_98 1899 rfl).trans rfl
theorem te_368_1900 : (pT M_368).find? (fun e => e.1 == 1900) = some (1900, .aload_n 3, 0, 0) := (sk_98 1900 rfl).trans rfl
theorem te_368_1901 : (pT M_368).find? (fun e => e.1 == 1901) = some (1901, .invokestatic 303, 193, 8) := (sk_98 1901 rfl).trans rfl
theorem te_368_1904 : (pT M_368).find? (fun e => e.1 == 1904) = some (1904, .istore 5, 0, 0) := (sk_98 1904 rfl).trans rfl
theorem te_368_1906 : (pT M_368).find? (fun e => e.1 == 1906) = some (1906, .aload_n 2, 0, 0) := (sk_98 1906 rfl).trans rfl
theorem te_368_1907 : (pT M_368).find? (fun e => e.1 == 1907) = some (1907, .invokevirtual 305, 351, 0) := (sk_98 1907 rfl).trans rfl
theorem te_368_1910 : (pT M_368).find? (fun e => e.1 == 1910) = some (1910, .istore 6, 0, 0) := (sk_98 1910 rfl).trans rfl
theorem te_368_1912 : (pT M_368).find? (fun e => e.1 == 1912) = some (1912, .goto 432, 0, 0) := (sk_98 1912 rfl).trans rfl
theorem te_368_1915 : (pT M_368).find? (fun e => e.1 == 1915) = some (1915, .aload_n 1, 0, 0) := (sk_99 1915 rfl).trans rfl
theorem te_368_1916 : (pT M_368).find? (fun e => e.1 == 1916) = some (1916, .aload_n 0, 0, 0) := (sk_99 1916 rfl).trans rfl
theorem te_368_1917 : (pT M_368).find? (fun e => e.1 == 1917) = some (1917, .iload 4, 0, 0) := (sk_99 1917 rfl).trans rfl
theorem te_368_1919 : (pT M_368).find? (fun e => e.1 == 1919) = some (1919, .iconst 1, 0, 0) := (sk_99 1919 rfl).trans rfl
theorem te_368_1920 : (pT M_368).find? (fun e => e.1 == 1920) = some (1920, .iadd, 0, 0) := (sk_99 1920 rfl).trans rfl
theorem te_368_1921 : (pT M_368).find? (fun e => e.1 == 1921) = some (1921, .iaload, 0, 0) := (sk_99 1921 rfl).trans rfl
theorem te_368_1922 : (pT M_368).find? (fun e => e.1 == 1922) = some (1922, .aload_n 3, 0, 0) := (sk_99 1922 rfl).trans rfl
theorem te_368_1923 : (pT M_368).find? (fun e => e.1 == 1923) = some (1923, .invokestatic 306, 195, 8) := (sk_99 1923 rfl).trans rfl
theorem te_368_1926 : (pT M_368).find? (fun e => e.1 == 1926) = some (1926, .istore 5, 0, 0) := (sk_99 1926 rfl).trans rfl
theorem te_368_1928 : (pT M_368).find? (fun e => e.1 == 1928) = some (1928, .aload_n 2, 0, 0) := (sk_99 1928 rfl).trans rfl
theorem te_368_1929 : (pT M_368).find? (fun e => e.1 == 1929) = some (1929, .aload_n 0, 0, 0) := (sk_99 1929 rfl).trans rfl
theorem te_368_1930 : (pT M_368).find? (fun e => e.1 == 1930) = some (1930, .iload 4, 0, 0) := (sk_99 1930 rfl).trans rfl
theorem te_368_1932 : (pT M_368).find? (fun e => e.1 == 1932) = some (1932, .iconst 1, 0, 0) := (sk_100 1932 rfl).trans rfl
theorem te_368_1933 : (pT M_368).find? (fun e => e.1 == 1933) = some (1933, .iadd, 0, 0) := (sk_100 1933 rfl).trans rfl
theorem te_368_1934 : (pT M_368).find? (fun e => e.1 == 1934) = some (1934, .iaload, 0, 0) := (sk_100 1934 rfl).trans rfl
theorem te_368_1935 : (pT M_368).find? (fun e => e.1 == 1935) = some (1935, .invokevirtual 308, 352, 0) := (sk_100 1935 rfl).trans rfl
theorem te_368_1938 : (pT M_368).find? (fun e => e.1 == 1938) = some (1938, .istore 6, 0, 0) := (sk_100 1938 rfl).trans rfl
theorem te_368_1940 : (pT M_368).find? (fun e => e.1 == 1940) = some (1940, .goto 404, 0, 0) := (sk_100 1940 rfl).trans rfl
theorem te_368_1943 : (pT M_368).find? (fun e => e.1 == 1943) = some (1943, .aload_n 1, 0, 0) := (sk_100 1943 rfl).trans rfl
theorem te_368_1944 : (pT M_368).find? (fun e => e.1 == 1944) = some (1944, .aload_n 0, 0, 0) := (sk_100 1944 rfl).trans rfl
theorem te_368_1945 : (pT M_368).find? (fun e => e.1 == 1945) = some (1945, .iload 4, 0, 0) := (sk_100 1945 rfl).trans rfl
theorem te_368_1947 : (pT M_368).find? (fun e => e.1 == 1947) = some (1947, .iconst 1, 0, 0) := (sk_100 1947 rfl).trans rfl
theorem te_368_1948 : (pT M_368).find? (fun e => e.1 == 1948) = some (1948, .iadd, 0, 0) := (sk_100 1948 rfl).trans rfl
theorem te_368_1949 : (pT M_368).find? (fun e => e.1 == 1949) = some (1949, .iaload, 0, 0) := (sk_100 1949 rfl).trans rfl
theorem te_368_1950 : (pT M_368).find? (fun e => e.1 == 1950) = some (1950, .aload_n 3, 0, 0) := (sk_101 1950 rfl).trans rfl
theorem te_368_1951 : (pT M_368).find? (fun e => e.1 == 1951) = some (1951, .invokestatic 309, 197, 8) := (sk_101 1951 rfl).trans rfl
theorem te_368_1954 : (pT M_368).find? (fun e => e.1 == 1954) = some (1954, .istore 5, 0, 0) := (sk_101 1954 rfl).trans rfl
theorem te_368_1956 : (pT M_368).find? (fun e => e.1 == 1956) = some (1956, .aload_n 2, 0, 0) := (sk_101 1956 rfl).trans rfl
theorem te_368_1957 : (pT M_368).find? (fun e => e.1 == 1957) = some (1957, .aload_n 0, 0, 0) := (sk_101 1957 rfl).trans rfl
theorem te_368_1958 : (pT M_368).find? (fun e => e.1 == 1958) = some (1958, .iload 4, 0, 0) := (sk_101 1958 rfl).trans rfl
theorem te_368_1960 : (pT M_368).find? (fun e => e.1 == 1960) = some (1960, .iconst 1, 0, 0) := (sk_101 1960 rfl).trans rfl
theorem te_368_1961 : (pT M_368).find? (fun e => e.1 == 1961) = some (1961, .iadd, 0, 0) := (sk_101 1961 rfl).trans rfl
theorem te_368_1962 : (pT M_368).find? (fun e => e.1 == 1962) = some (1962, .iaload, 0, 0) := (sk_101 1962 rfl).trans rfl
theorem te_368_1963 : (pT M_368).find? (fun e => e.1 == 1963) = some (1963, .invokevirtual 311, 355, 0) := (sk_101 1963 rfl).trans rfl
theorem te_368_1966 : (pT M_368).find? (fun e => e.1 == 1966) = some (1966, .istore 6, 0, 0) := (sk_101 1966 rfl).trans rfl
theorem te_368_1968 : (pT M_368).find? (fun e => e.1 == 1968) = some (1968, .goto 376, 0, 0) := (sk_101 1968 rfl).trans rfl
theorem te_368_1971 : (pT M_368).find? (fun e => e.1 == 1971) = some (1971, .aload_n 1, 0, 0) := (sk_102 1971 rfl).trans rfl
theorem te_368_1972 : (pT M_368).find? (fun e => e.1 == 1972) = some (1972, .aload_n 0, 0, 0) := (sk_102 1972 rfl).trans rfl
theorem te_368_1973 : (pT M_368).find? (fun e => e.1 == 1973) = some (1973, .iload 4, 0, 0) := (sk_102 1973 rfl).trans rfl
theorem te_368_1975 : (pT M_368).find? (fun e => e.1 == 1975) = some (1975, .iconst 1, 0, 0) := (sk_102 1975 rfl).trans rfl
theorem te_368_1976 : (pT M_368).find? (fun e => e.1 == 1976) = some (1976, .iadd, 0, 0) := (sk_102 1976 rfl).trans rfl
theorem te_368_1977 : (pT M_368).find? (fun e => e.1 == 1977) = some (1977, .iaload, 0, 0) := (sk_102 1977 rfl).trans rfl
theorem te_368_1978 : (pT M_368).find? (fun e => e.1 == 1978) = some (1978, .aload_n 0, 0, 0) := (sk_102 1978 rfl).trans rfl
theorem te_368_1979 : (pT M_368).find? (fun e => e.1 == 1979) = some (1979, .iload 4, 0, 0) := (sk_102 1979 rfl).trans rfl
theorem te_368_1981 : (pT M_368).find? (fun e => e.1 == 1981) = some (1981, .iconst 2, 0, 0) := (sk_102 1981 rfl).trans rfl
theorem te_368_1982 : (pT M_368).find? (fun e => e.1 == 1982) = some (1982, .iadd, 0, 0) := (sk_102 1982 rfl).trans rfl
theorem te_368_1983 : (pT M_368).find? (fun e => e.1 == 1983) = some (1983, .iaload, 0, 0) := (sk_102 1983 rfl).trans rfl
theorem te_368_1984 : (pT M_368).find? (fun e => e.1 == 1984) = some (1984, .aload_n 3, 0, 0) := (sk_102 1984 rfl).trans rfl
theorem te_368_1985 : (pT M_368).find? (fun e => e.1 == 1985) = some (1985, .invokestatic 312, 200, 8) := (sk_103 1985 rfl).trans rfl
theorem te_368_1988 : (pT M_368).find? (fun e => e.1 == 1988) = some (1988, .istore 5, 0, 0) := (sk_103 1988 rfl).trans rfl
theorem te_368_1990 : (pT M_368).find? (fun e => e.1 == 1990) = some (1990, .aload_n 2, 0, 0) := (sk_103 1990 rfl).trans rfl
theorem te_368_1991 : (pT M_368).find? (fun e => e.1 == 1991) = some (1991, .aload_n 0, 0, 0) := (sk_103 1991 rfl).trans rfl
theorem te_368_1992 : (pT M_368).find? (fun e => e.1 == 1992) = some (1992, .iload 4, 0, 0) := (sk_103 1992 rfl).trans rfl
theorem te_368_1994 : (pT M_368).find? (fun e => e.1 == 1994) = some (1994, .iconst 1, 0, 0) := (sk_103 1994 rfl).trans rfl
theorem te_368_1995 : (pT M_368).find? (fun e => e.1 == 1995) = some (1995, .iadd, 0, 0) := (sk_103 1995 rfl).trans rfl
theorem te_368_1996 : (pT M_368).find? (fun e => e.1 == 1996) = some (1996, .iaload, 0, 0) := (sk_103 1996 rfl).trans rfl
theorem te_368_1997 : (pT M_368).find? (fun e => e.1 == 1997) = some (1997, .aload_n 0, 0, 0) := (sk_103 1997 rfl).trans rfl
theorem te_368_1998 : (pT M_368).find? (fun e => e.1 == 1998) = some (1998, .iload 4, 0, 0) := (sk_103 1998 rfl).trans rfl
theorem te_368_2000 : (pT M_368).find? (fun e => e.1 == 2000) = some (2000, .iconst 2, 0, 0) := (sk_103 2000 rfl).trans rfl
theorem te_368_2001 : (pT M_368).find? (fun e => e.1 == 2001) = some (2001, .iadd, 0, 0) := (sk_103 2001 rfl).trans rfl
theorem te_368_2002 : (pT M_368).find? (fun e => e.1 == 2002) = some (2002, .iaload, 0, 0) := (sk_104 2002 rfl).trans rfl
theorem te_368_2003 : (pT M_368).find? (fun e => e.1 == 2003) = some (2003, .invokevirtual 314, 356, 0) := (sk_104 2003 rfl).trans rfl
theorem te_368_2006 : (pT M_368).find? (fun e => e.1 == 2006) = some (2006, .istore 6, 0, 0) := (sk_104 2006 rfl).trans rfl
theorem te_368_2008 : (pT M_368).find? (fun e => e.1 == 2008) = some (2008, .goto 336, 0, 0) := (sk_104 2008 rfl).trans rfl
theorem te_368_2011 : (pT M_368).find? (fun e => e.1 == 2011) = some (2011, .aload_n 1, 0, 0) := (sk_104 2011 rfl).trans rfl
theorem te_368_2012 : (pT M_368).find? (fun e => e.1 == 2012) = some (2012, .aload_n 0, 0, 0) := (sk_104 2012 rfl).trans rfl
theorem te_368_2013 : (pT M_368).find? (fun e => e.1 == 2013) = some (2013, .iload 4, 0, 0) := (sk_104 2013 rfl).trans rfl
theorem te_368_2015 : (pT M_368).find? (fun e => e.1 == 2015) = some (2015, .iconst 1, 0, 0) := (sk_104 2015 rfl).trans rfl
theorem te_368_2016 : (pT M_368).find? (fun e => e.1 == 2016) = some (2016, .iadd, 0, 0) := (sk_104 2016 rfl).trans rfl
theorem te_368_2017 : (pT M_368).find? (fun e => e.1 == 2017) = some (2017, .iaload, 0, 0) := (sk_104 2017 rfl).trans rfl
theorem te_368_2018 : (pT M_368).find? (fun e => e.1 == 2018) = some (2018, .aload_n 0, 0, 0) := (sk_104 2018 rfl).trans rfl
theorem te_368_2019 : (pT M_368).find? (fun e => e.1 == 2019) = some (2019, .iload 4, 0, 0) := (sk_104 2019 rfl).trans rfl
theorem te_368_2021 : (pT M_368).find? (fun e => e.1 == 2021) = some (2021, .iconst 2, 0, 0) := (sk_105 2021 rfl).trans rfl
theorem te_368_2022 : (pT M_368).find? (fun e => e.1 == 2022) = some (2022, .iadd, 0, 0) := (sk_105 2022 rfl).trans rfl
theorem te_368_2023 : (pT M_368).find? (fun e => e.1 == 2023) = some (2023, .iaload, 0, 0) := (sk_105 2023 rfl).trans rfl
theorem te_368_2024 : (pT M_368).find? (fun e => e.1 == 2024) = some (2024, .aload_n 0, 0, 0) := (sk_105 2024 rfl).trans rfl
theorem te_368_2025 : (pT M_368).find? (fun e => e.1 == 2025) = some (2025, .iload 4, 0, 0) := (sk_105 2025 rfl).trans rfl
theorem te_368_2027 : (pT M_368).find? (fun e => e.1 == 2027) = some (2027, .iconst 3, 0, 0) := (sk_105 2027 rfl).trans rfl
theorem te_368_2028 : (pT M_368).find? (fun e => e.1 == 2028) = some (2028, .iadd, 0, 0) := (sk_105 2028 rfl).trans rfl
theorem te_368_2029 : (pT M_368).find? (fun e => e.1 == 2029) = some (2029, .iaload, 0, 0) := (sk_105 2029 rfl).trans rfl
theorem te_368_2030 : (pT M_368).find? (fun e => e.1 == 2030) = some (2030, .ifCond .eq 7, 0, 0) := (sk_105 2030 rfl).trans rfl
theorem te_368_2033 : (pT M_368).find? (fun e => e.1 == 2033) = some (2033, .iconst 1, 0, 0) := (sk_105 2033 rfl).trans rfl
theorem te_368_2034 : (pT M_368).find? (fun e => e.1 == 2034) = some (2034, .goto 4, 0, 0) := (sk_105 2034 rfl).trans rfl
theorem te_368_2037 : (pT M_368).find? (fun e => e.1 == 2037) = some (2037, .iconst 0, 0, 0) := (sk_105 2037 rfl).trans rfl
theorem te_368_2038 : (pT M_368).find? (fun e => e.1 == 2038) = some (2038, .aload_n 3, 0, 0) := (sk_106 2038 rfl).trans rfl
theorem te_368_2039 : (pT M_368).find? (fun e => e.1 == 2039) = some (2039, .invokestatic 315, 202, 8) := (sk_106 2039 rfl).trans rfl
theorem te_368_2042 : (pT M_368).find? (fun e => e.1 == 2042) = some (2042, .istore 5, 0, 0) := (sk_106 2042 rfl).trans rfl
theorem te_368_2044 : (pT M_368).find? (fun e => e.1 == 2044) = some (2044, .aload_n 2, 0, 0) := (sk_106 2044 rfl).trans rfl
theorem te_368_2045 : (pT M_368).find? (fun e => e.1 == 2045) = some (2045, .aload_n 0, 0, 0) := (sk_106 2045 rfl).trans rfl
theorem te_368_2046 : (pT M_368).find? (fun e => e.1 == 2046) = some (2046, .iload 4, 0, 0) := (sk_106 2046 rfl).trans rfl
theorem te_368_2048 : (pT M_368).find? (fun e => e.1 == 2048) = some (2048, .iconst 1, 0, 0) := (sk_106 2048 rfl).trans rfl
theorem te_368_2049 : (pT M_368).find? (fun e => e.1 == 2049) = some (2049, .iadd, 0, 0) := (sk_106 2049 rfl).trans rfl
theorem te_368_2050 : (pT M_368).find? (fun e => e.1 == 2050) = some (2050, .iaload, 0, 0) := (sk_106 2050 rfl).trans rfl
theorem te_368_2051 : (pT M_368).find? (fun e => e.1 == 2051) = some (2051, .aload_n 0, 0, 0) := (sk_106 2051 rfl).trans rfl
theorem te_368_2052 : (pT M_368).find? (fun e => e.1 == 2052) = some (2052, .iload 4, 0, 0) := (sk_106 2052 rfl).trans rfl
theorem te_368_2054 : (pT M_368).find? (fun e => e.1 == 2054) = some (2054, .iconst 2, 0, 0) := (sk_106 2054 rfl).trans rfl
theorem te_368_2055 : (pT M_368).find? (fun e => e.1 == 2055) = some (2055, .iadd, 0, 0) := (sk_107 2055 rfl).trans rfl
theorem te_368_2056 : (pT M_368).find? (fun e => e.1 == 2056) = some (2056, .iaload, 0, 0) := (sk_107 2056 rfl).trans rfl
theorem te_368_2057 : (pT M_368).find? (fun e => e.1 == 2057) = some (2057, .aload_n 0, 0, 0) := (sk_107 2057 rfl).trans rfl
theorem te_368_2058 : (pT M_368).find? (fun e => e.1 == 2058) = some (2058, .iload 4, 0, 0) := (sk_107 2058 rfl).trans rfl
theorem te_368_2060 : (pT M_368).find? (fun e => e.1 == 2060) = some (2060, .iconst 3, 0, 0) := (sk_107 2060 rfl).trans rfl
theorem te_368_2061 : (pT M_368).find? (fun e => e.1 == 2061) = some (2061, .iadd, 0, 0) := (sk_107 2061 rfl).trans rfl
theorem te_368_2062 : (pT M_368).find? (fun e => e.1 == 2062) = some (2062, .iaload, 0, 0) := (sk_107 2062 rfl).trans rfl
theorem te_368_2063 : (pT M_368).find? (fun e => e.1 == 2063) = some (2063, .ifCond .eq 7, 0, 0) := (sk_107 2063 rfl).trans rfl
theorem te_368_2066 : (pT M_368).find? (fun e => e.1 == 2066) = some (2066, .iconst 1, 0, 0) := (sk_107 2066 rfl).trans rfl
theorem te_368_2067 : (pT M_368).find? (fun e => e.1 == 2067) = some (2067, .goto 4, 0, 0) := (sk_107 2067 rfl).trans rfl
theorem te_368_2070 : (pT M_368).find? (fun e => e.1 == 2070) = some (2070, .iconst 0, 0, 0) := (sk_107 2070 rfl).trans rfl
theorem te_368_2071 : (pT M_368).find? (fun e => e.1 == 2071) = some (2071, .invokevirtual 317, 359, 0) := (sk_107 2071 rfl).trans rfl
theorem te_368_2074 : (pT M_368).find? (fun e => e.1 == 2074) = some (2074, .istore 6, 0, 0) := (sk_108 2074 rfl).trans rfl
theorem te_368_2076 : (pT M_368).find? (fun e => e.1 == 2076) = some (2076, .goto 268, 0, 0) := (sk_108 2076 rfl).trans rfl
theorem te_368_2079 : (pT M_368).find? (fun e => e.1 == 2079) = some (2079, .aload_n 1, 0, 0) := (sk_108 2079 rfl).trans rfl
theorem te_368_2080 : (pT M_368).find? (fun e => e.1 == 2080) = some (2080, .aload_n 0, 0, 0) := (sk_108 2080 rfl).trans rfl
theorem te_368_2081 : (pT M_368).find? (fun e => e.1 == 2081) = some (2081, .iload 4, 0, 0) := (sk_108 2081 rfl).trans rfl
theorem te_368_2083 : (pT M_368).find? (fun e => e.1 == 2083) = some (2083, .iconst 1, 0, 0) := (sk_108 2083 rfl).trans rfl
theorem te_368_2084 : (pT M_368).find? (fun e => e.1 == 2084) = some (2084, .iadd, 0, 0) := (sk_108 2084 rfl).trans rfl
theorem te_368_2085 : (pT M_368).find? (fun e => e.1 == 2085) = some (2085, .iaload, 0, 0) := (sk_108 2085 rfl).trans rfl
theorem te_368_2086 : (pT M_368).find? (fun e => e.1 == 2086) = some (2086, .aload_n 0, 0, 0) := (sk_108 2086 rfl).trans rfl
theorem te_368_2087 : (pT M_368).find? (fun e => e.1 == 2087) = some (2087, .iload 4, 0, 0) := (sk_108 2087 rfl).trans rfl
theorem te_368_2089 : (pT M_368).find? (fun e => e.1 == 2089) = some (2089, .iconst 2, 0, 0) := (sk_108 2089 rfl).trans rfl
theorem te_368_2090 : (pT M_368).find? (fun e => e.1 == 2090) = some (2090, .iadd, 0, 0) := (sk_108 2090 rfl).trans rfl
theorem te_368_2091 : (pT M_368).find? (fun e => e.1 == 2091) = some (2091, .iaload, 0, 0) := (sk_109 2091 rfl).trans rfl
theorem te_368_2092 : (pT M_368).find? (fun e => e.1 == 2092) = some (2092, .aload_n 0, 0, 0) := (sk_109 2092 rfl).trans rfl
theorem te_368_2093 : (pT M_368).find? (fun e => e.1 == 2093) = some (2093, .iload 4, 0, 0) := (sk_109 2093 rfl).trans rfl
theorem te_368_2095 : (pT M_368).find? (fun e => e.1 == 2095) = some (2095, .iconst 3, 0, 0) := (sk_109 2095 rfl).trans rfl
theorem te_368_2096 : (pT M_368).find? (fun e => e.1 == 2096) = some (2096, .iadd, 0, 0) := (sk_109 2096 rfl).trans rfl
theorem te_368_2097 : (pT M_368).find? (fun e => e.1 == 2097) = some (2097, .iaload, 0, 0) := (sk_109 2097 rfl).trans rfl
theorem te_368_2098 : (pT M_368).find? (fun e => e.1 == 2098) = some (2098, .aload_n 3, 0, 0) := (sk_109 2098 rfl).trans rfl
theorem te_368_2099 : (pT M_368).find? (fun e => e.1 == 2099) = some (2099, .invokestatic 318, 206, 8) := (sk_109 2099 rfl).trans rfl
theorem te_368_2102 : (pT M_368).find? (fun e => e.1 == 2102) = some (2102, .istore 5, 0, 0) := (sk_109 2102 rfl).trans rfl
theorem te_368_2104 : (pT M_368).find? (fun e => e.1 == 2104) = some (2104, .aload_n 2, 0, 0) := (sk_109 2104 rfl).trans rfl
theorem te_368_2105 : (pT M_368).find? (fun e => e.1 == 2105) = some (2105, .aload_n 0, 0, 0) := (sk_109 2105 rfl).trans rfl
theorem te_368_2106 : (pT M_368).find? (fun e => e.1 == 2106) = some (2106, .iload 4, 0, 0) := (sk_109 2106 rfl).trans rfl
theorem te_368_2108 : (pT M_368).find? (fun e => e.1 == 2108) = some (2108, .iconst 1, 0, 0) := (sk_110 2108 rfl).trans rfl
theorem te_368_2109 : (pT M_368).find? (fun e => e.1 == 2109) = some (2109, .iadd, 0, 0) := (sk_110 2109 rfl).trans rfl
theorem te_368_2110 : (pT M_368).find? (fun e => e.1 == 2110) = some (2110, .iaload, 0, 0) := (sk_110 2110 rfl).trans rfl
theorem te_368_2111 : (pT M_368).find? (fun e => e.1 == 2111) = some (2111, .aload_n 0, 0, 0) := (sk_110 2111 rfl).trans rfl
theorem te_368_2112 : (pT M_368).find? (fun e => e.1 == 2112) = some (2112, .iload 4, 0, 0) := (sk_110 2112 rfl).trans rfl
theorem te_368_2114 : (pT M_368).find? (fun e => e.1 == 2114) = some (2114, .iconst 2, 0, 0) := (sk_110 2114 rfl).trans rfl
theorem te_368_2115 : (pT M_368).find? (fun e => e.1 == 2115) = some (2115, .iadd, 0, 0) := (sk_110 2115 rfl).trans rfl
theorem te_368_2116 : (pT M_368).find? (fun e => e.1 == 2116) = some (2116, .iaload, 0, 0) := (sk_110 2116 rfl).trans rfl
theorem te_368_2117 : (pT M_368).find? (fun e => e.1 == 2117) = some (2117, .aload_n 0, 0, 0) := (sk_110 2117 rfl).trans rfl
theorem te_368_2118 : (pT M_368).find? (fun e => e.1 == 2118) = some (2118, .iload 4, 0, 0) := (sk_110 2118 rfl).trans rfl
theorem te_368_2120 : (pT M_368).find? (fun e => e.1 == 2120) = some (2120, .iconst 3, 0, 0) := (sk_110 2120 rfl).trans rfl
theorem te_368_2121 : (pT M_368).find? (fun e => e.1 == 2121) = some (2121, .iadd, 0, 0) := (sk_110 2121 rfl).trans rfl
theorem te_368_2122 : (pT M_368).find? (fun e => e.1 == 2122) = some (2122, .iaload, 0, 0) := (sk_111 2122 rfl).trans rfl
theorem te_368_2123 : (pT M_368).find? (fun e => e.1 == 2123) = some (2123, .invokevirtual 320, 361, 0) := (sk_111 2123 rfl).trans rfl
theorem te_368_2126 : (pT M_368).find? (fun e => e.1 == 2126) = some (2126, .istore 6, 0, 0) := (sk_111 2126 rfl).trans rfl
theorem te_368_2128 : (pT M_368).find? (fun e => e.1 == 2128) = some (2128, .goto 216, 0, 0) := (sk_111 2128 rfl).trans rfl
theorem te_368_2131 : (pT M_368).find? (fun e => e.1 == 2131) = some (2131, .aload_n 1, 0, 0) := (sk_111 2131 rfl).trans rfl
theorem te_368_2132 : (pT M_368).find? (fun e => e.1 == 2132) = some (2132, .aload_n 0, 0, 0) := (sk_111 2132 rfl).trans rfl
theorem te_368_2133 : (pT M_368).find? (fun e => e.1 == 2133) = some (2133, .iload 4, 0, 0) := (sk_111 2133 rfl).trans rfl
theorem te_368_2135 : (pT M_368).find? (fun e => e.1 == 2135) = some (2135, .iconst 1, 0, 0) := (sk_111 2135 rfl).trans rfl
theorem te_368_2136 : (pT M_368).find? (fun e => e.1 == 2136) = some (2136, .iadd, 0, 0) := (sk_111 2136 rfl).trans rfl
theorem te_368_2137 : (pT M_368).find? (fun e => e.1 == 2137) = some (2137, .iaload, 0, 0) := (sk_111 2137 rfl).trans rfl
theorem te_368_2138 : (pT M_368).find? (fun e => e.1 == 2138) = some (2138, .aload_n 0, 0, 0) := (sk_111 2138 rfl).trans rfl
theorem te_368_2139 : (pT M_368).find? (fun e => e.1 == 2139) = some (2139, .iload 4, 0, 0) := (sk_111 2139 rfl).trans rfl
theorem te_368_2141 : (pT M_368).find? (fun e => e.1 == 2141) = some (2141, .iconst 2, 0, 0) := (sk_112 2141 rfl).trans rfl
theorem te_368_2142 : (pT M_368).find? (fun e => e.1 == 2142) = some (2142, .iadd, 0, 0) := (sk_112 2142 rfl).trans rfl
theorem te_368_2143 : (pT M_368).find? (fun e => e.1 == 2143) = some (2143, .iaload, 0, 0) := (sk_112 2143 rfl).trans rfl
theorem te_368_2144 : (pT M_368).find? (fun e => e.1 == 2144) = some (2144, .aload_n 3, 0, 0) := (sk_112 2144 rfl).trans rfl
theorem te_368_2145 : (pT M_368).find? (fun e => e.1 == 2145) = some (2145, .invokestatic 321, 209, 8) := (sk_112 2145 rfl).trans rfl
theorem te_368_2148 : (pT M_368).find? (fun e => e.1 == 2148) = some (2148, .istore 5, 0, 0) := (sk_112 2148 rfl).trans rfl
theorem te_368_2150 : (pT M_368).find? (fun e => e.1 == 2150) = some (2150, .aload_n 2, 0, 0) := (sk_112 2150 rfl).trans rfl
theorem te_368_2151 : (pT M_368).find? (fun e => e.1 == 2151) = some (2151, .aload_n 0, 0, 0) := (sk_112 2151 rfl).trans rfl
theorem te_368_2152 : (pT M_368).find? (fun e => e.1 == 2152) = some (2152, .iload 4, 0, 0) := (sk_112 2152 rfl).trans rfl
theorem te_368_2154 : (pT M_368).find? (fun e => e.1 == 2154) = some (2154, .iconst 1, 0, 0) := (sk_112 2154 rfl).trans rfl
theorem te_368_2155 : (pT M_368).find? (fun e => e.1 == 2155) = some (2155, .iadd, 0, 0) := (sk_112 2155 rfl).trans rfl
theorem te_368_2156 : (pT M_368).find? (fun e => e.1 == 2156) = some (2156, .iaload, 0, 0) := (sk_112 2156 rfl).trans rfl
theorem te_368_2157 : (pT M_368).find? (fun e => e.1 == 2157) = some (2157, .aload_n 0, 0, 0) := (sk_113 2157 rfl).trans rfl
theorem te_368_2158 : (pT M_368).find? (fun e => e.1 == 2158) = some (2158, .iload 4, 0, 0) := (sk_113 2158 rfl).trans rfl
theorem te_368_2160 : (pT M_368).find? (fun e => e.1 == 2160) = some (2160, .iconst 2, 0, 0) := (sk_113 2160 rfl).trans rfl
theorem te_368_2161 : (pT M_368).find? (fun e => e.1 == 2161) = some (2161, .iadd, 0, 0) := (sk_113 2161 rfl).trans rfl
theorem te_368_2162 : (pT M_368).find? (fun e => e.1 == 2162) = some (2162, .iaload, 0, 0) := (sk_113 2162 rfl).trans rfl
theorem te_368_2163 : (pT M_368).find? (fun e => e.1 == 2163) = some (2163, .invokevirtual 323, 362, 0) := (sk_113 2163 rfl).trans rfl
theorem te_368_2166 : (pT M_368).find? (fun e => e.1 == 2166) = some (2166, .istore 6, 0, 0) := (sk_113 2166 rfl).trans rfl
theorem te_368_2168 : (pT M_368).find? (fun e => e.1 == 2168) = some (2168, .goto 176, 0, 0) := (sk_113 2168 rfl).trans rfl
theorem te_368_2171 : (pT M_368).find? (fun e => e.1 == 2171) = some (2171, .aload_n 1, 0, 0) := (sk_113 2171 rfl).trans rfl
theorem te_368_2172 : (pT M_368).find? (fun e => e.1 == 2172) = some (2172, .aload_n 0, 0, 0) := (sk_113 2172 rfl).trans rfl
theorem te_368_2173 : (pT M_368).find? (fun e => e.1 == 2173) = some (2173, .iload 4, 0, 0) := (sk_113 2173 rfl).trans rfl
theorem te_368_2175 : (pT M_368).find? (fun e => e.1 == 2175) = some (2175, .iconst 1, 0, 0) := (sk_113 2175 rfl).trans rfl
theorem te_368_2176 : (pT M_368).find? (fun e => e.1 == 2176) = some (2176, .iadd, 0, 0) := (sk_114 2176 rfl).trans rfl
theorem te_368_2177 : (pT M_368).find? (fun e => e.1 == 2177) = some (2177, .iaload, 0, 0) := (sk_114 2177 rfl).trans rfl
theorem te_368_2178 : (pT M_368).find? (fun e => e.1 == 2178) = some (2178, .aload_n 0, 0, 0) := (sk_114 2178 rfl).trans rfl
theorem te_368_2179 : (pT M_368).find? (fun e => e.1 == 2179) = some (2179, .iload 4, 0, 0) := (sk_114 2179 rfl).trans rfl
theorem te_368_2181 : (pT M_368).find? (fun e => e.1 == 2181) = some (2181, .iconst 2, 0, 0) := (sk_114 2181 rfl).trans rfl
theorem te_368_2182 : (pT M_368).find? (fun e => e.1 == 2182) = some (2182, .iadd, 0, 0) := (sk_114 2182 rfl).trans rfl
theorem te_368_2183 : (pT M_368).find? (fun e => e.1 == 2183) = some (2183, .iaload, 0, 0) := (sk_114 2183 rfl).trans rfl
theorem te_368_2184 : (pT M_368).find? (fun e => e.1 == 2184) = some (2184, .aload_n 0, 0, 0) := (sk_114 2184 rfl).trans rfl
theorem te_368_2185 : (pT M_368).find? (fun e => e.1 == 2185) = some (2185, .iload 4, 0, 0) := (sk_114 2185 rfl).trans rfl
theorem te_368_2187 : (pT M_368).find? (fun e => e.1 == 2187) = some (2187, .iconst 3, 0, 0) := (sk_114 2187 rfl).trans rfl
theorem te_368_2188 : (pT M_368).find? (fun e => e.1 == 2188) = some (2188, .iadd, 0, 0) := (sk_114 2188 rfl).trans rfl
theorem te_368_2189 : (pT M_368).find? (fun e => e.1 == 2189) = some (2189, .iaload, 0, 0) := (sk_114 2189 rfl).trans rfl
theorem te_368_2190 : (pT M_368).find? (fun e => e.1 == 2190) = some (2190, .aload_n 0, 0, 0) := (sk_115 2190 rfl).trans rfl
theorem te_368_2191 : (pT M_368).find? (fun e => e.1 == 2191) = some (2191, .iload 4, 0, 0) := (sk_115 2191 rfl).trans rfl
theorem te_368_2193 : (pT M_368).find? (fun e => e.1 == 2193) = some (2193, .iconst 4, 0, 0) := (sk_115 2193 rfl).trans rfl
theorem te_368_2194 : (pT M_368).find? (fun e => e.1 == 2194) = some (2194, .iadd, 0, 0) := (sk_115 2194 rfl).trans rfl
theorem te_368_2195 : (pT M_368).find? (fun e => e.1 == 2195) = some (2195, .iaload, 0, 0) := (sk_115 2195 rfl).trans rfl
theorem te_368_2196 : (pT M_368).find? (fun e => e.1 == 2196) = some (2196, .aload_n 3, 0, 0) := (sk_115 2196 rfl).trans rfl
theorem te_368_2197 : (pT M_368).find? (fun e => e.1 == 2197) = some (2197, .invokestatic 324, 213, 8) := (sk_115 2197 rfl).trans rfl
theorem te_368_2200 : (pT M_368).find? (fun e => e.1 == 2200) = some (2200, .istore 5, 0, 0) := (sk_115 2200 rfl).trans rfl
theorem te_368_2202 : (pT M_368).find? (fun e => e.1 == 2202) = some (2202, .aload_n 2, 0, 0) := (sk_115 2202 rfl).trans rfl
theorem te_368_2203 : (pT M_368).find? (fun e => e.1 == 2203) = some (2203, .aload_n 0, 0, 0) := (sk_115 2203 rfl).trans rfl
theorem te_368_2204 : (pT M_368).find? (fun e => e.1 == 2204) = some (2204, .iload 4, 0, 0) := (sk_115 2204 rfl).trans rfl
theorem te_368_2206 : (pT M_368).find? (fun e => e.1 == 2206) = some (2206, .iconst 1, 0, 0) := (sk_115 2206 rfl).trans rfl
theorem te_368_2207 : (pT M_368).find? (fun e => e.1 == 2207) = some (2207, .iadd, 0, 0) := (sk_116 2207 rfl).trans rfl
theorem te_368_2208 : (pT M_368).find? (fun e => e.1 == 2208) = some (2208, .iaload, 0, 0) := (sk_116 2208 rfl).trans rfl
theorem te_368_2209 : (pT M_368).find? (fun e => e.1 == 2209) = some (2209, .aload_n 0, 0, 0) := (sk_116 2209 rfl).trans rfl
theorem te_368_2210 : (pT M_368).find? (fun e => e.1 == 2210) = some (2210, .iload 4, 0, 0) := (sk_116 2210 rfl).trans rfl
theorem te_368_2212 : (pT M_368).find? (fun e => e.1 == 2212) = some (2212, .iconst 2, 0, 0) := (sk_116 2212 rfl).trans rfl
theorem te_368_2213 : (pT M_368).find? (fun e => e.1 == 2213) = some (2213, .iadd, 0, 0) := (sk_116 2213 rfl).trans rfl
theorem te_368_2214 : (pT M_368).find? (fun e => e.1 == 2214) = some (2214, .iaload, 0, 0) := (sk_116 2214 rfl).trans rfl
theorem te_368_2215 : (pT M_368).find? (fun e => e.1 == 2215) = some (2215, .aload_n 0, 0, 0) := (sk_116 2215 rfl).trans rfl
theorem te_368_2216 : (pT M_368).find? (fun e => e.1 == 2216) = some (2216, .iload 4, 0, 0) := (sk_116 2216 rfl).trans rfl
theorem te_368_2218 : (pT M_368).find? (fun e => e.1 == 2218) = some (2218, .iconst 3, 0, 0) := (sk_116 2218 rfl).trans rfl
theorem te_368_2219 : (pT M_368).find? (fun e => e.1 == 2219) = some (2219, .iadd, 0, 0) := (sk_116 2219 rfl).trans rfl
theorem te_368_2220 : (pT M_368).find? (fun e => e.1 == 2220) = some (2220, .iaload, 0, 0) := (sk_116 2220 rfl).trans rfl
theorem te_368_2221 : (pT M_368).find? (fun e => e.1 == 2221) = some (2221, .aload_n 0, 0, 0) := (sk_117 2221 rfl).trans rfl
theorem te_368_2222 : (pT M_368).find? (fun e => e.1 == 2222) = some (2222, .iload 4, 0, 0) := (sk_117 2222 rfl).trans rfl
theorem te_368_2224 : (pT M_368).find? (fun e => e.1 == 2224) = some (2224, .iconst 4, 0, 0) := (sk_117 2224 rfl).trans rfl
theorem te_368_2225 : (pT M_368).find? (fun e => e.1 == 2225) = some (2225, .iadd, 0, 0) := (sk_117 2225 rfl).trans rfl
theorem te_368_2226 : (pT M_368).find? (fun e => e.1 == 2226) = some (2226, .iaload, 0, 0) := (sk_117 2226 rfl).trans rfl
theorem te_368_2227 : (pT M_368).find? (fun e => e.1 == 2227) = some (2227, .invokevirtual 326, 364, 0) := (sk_117 2227 rfl).trans rfl
theorem te_368_2230 : (pT M_368).find? (fun e => e.1 == 2230) = some (2230, .istore 6, 0, 0) := (sk_117 2230 rfl).trans rfl
theorem te_368_2232 : (pT M_368).find? (fun e => e.1 == 2232) = some (2232, .goto 112, 0, 0) := (sk_117 2232 rfl).trans rfl
theorem te_368_2235 : (pT M_368).find? (fun e => e.1 == 2235) = some (2235, .aload_n 1, 0, 0) := (sk_117 2235 rfl).trans rfl
theorem te_368_2236 : (pT M_368).find? (fun e => e.1 == 2236) = some (2236, .aload_n 0, 0, 0) := (sk_117 2236 rfl).trans rfl
theorem te_368_2237 : (pT M_368).find? (fun e => e.1 == 2237) = some (2237, .iload 4, 0, 0) := (sk_117 2237 rfl).trans rfl
theorem te_368_2239 : (pT M_368).find? (fun e => e.1 == 2239) = some (2239, .iconst 1, 0, 0) := (sk_117 2239 rfl).trans rfl
theorem te_368_2240 : (pT M_368).find? (fun e => e.1 == 2240) = some (2240, .iadd, 0, 0) := (sk_118 2240 rfl).trans rfl
theorem te_368_2241 : (pT M_368).find? (fun e => e.1 == 2241) = some (2241, .iaload, 0, 0) := (sk_118 2241 rfl).trans rfl
theorem te_368_2242 : (pT M_368).find? (fun e => e.1 == 2242) = some (2242, .aload_n 3, 0, 0) := (sk_118 2242 rfl).trans rfl
theorem te_368_2243 : (pT M_368).find? (fun e => e.1 == 2243) = some (2243, .invokestatic 327, 218, 8) := (sk_118 2243 rfl).trans rfl
theorem te_368_2246 : (pT M_368).find? (fun e => e.1 == 2246) = some (2246, .istore 5, 0, 0) := (sk_118 2246 rfl).trans rfl
theorem te_368_2248 : (pT M_368).find? (fun e => e.1 == 2248) = some (2248, .aload_n 2, 0, 0) := (sk_118 2248 rfl).trans rfl
theorem te_368_2249 : (pT M_368).find? (fun e => e.1 == 2249) = some (2249, .aload_n 0, 0, 0) := (sk_118 2249 rfl).trans rfl
theorem te_368_2250 : (pT M_368).find? (fun e => e.1 == 2250) = some (2250, .iload 4, 0, 0) := (sk_118 2250 rfl).trans rfl
theorem te_368_2252 : (pT M_368).find? (fun e => e.1 == 2252) = some (2252, .iconst 1, 0, 0) := (sk_118 2252 rfl).trans rfl
theorem te_368_2253 : (pT M_368).find? (fun e => e.1 == 2253) = some (2253, .iadd, 0, 0) := (sk_118 2253 rfl).trans rfl
theorem te_368_2254 : (pT M_368).find? (fun e => e.1 == 2254) = some (2254, .iaload, 0, 0) := (sk_118 2254 rfl).trans rfl
theorem te_368_2255 : (pT M_368).find? (fun e => e.1 == 2255) = some (2255, .invokevirtual 329, 336, 0) := (sk_118 2255 rfl).trans rfl
theorem te_368_2258 : (pT M_368).find? (fun e => e.1 == 2258) = some (2258, .istore 6, 0, 0) := (sk_119 2258 rfl).trans rfl
theorem te_368_2260 : (pT M_368).find? (fun e => e.1 == 2260) = some (2260, .goto 84, 0, 0) := (sk_119 2260 rfl).trans rfl
theorem te_368_2263 : (pT M_368).find? (fun e => e.1 == 2263) = some (2263, .aload_n 1, 0, 0) := (sk_119 2263 rfl).trans rfl
theorem te_368_2264 : (pT M_368).find? (fun e => e.1 == 2264) = some (2264, .aload_n 0, 0, 0) := (sk_119 2264 rfl).trans rfl
theorem te_368_2265 : (pT M_368).find? (fun e => e.1 == 2265) = some (2265, .iload 4, 0, 0) := (sk_119 2265 rfl).trans rfl
theorem te_368_2267 : (pT M_368).find? (fun e => e.1 == 2267) = some (2267, .iconst 1, 0, 0) := (sk_119 2267 rfl).trans rfl
theorem te_368_2268 : (pT M_368).find? (fun e => e.1 == 2268) = some (2268, .iadd, 0, 0) := (sk_119 2268 rfl).trans rfl
theorem te_368_2269 : (pT M_368).find? (fun e => e.1 == 2269) = some (2269, .iaload, 0, 0) := (sk_119 2269 rfl).trans rfl
theorem te_368_2270 : (pT M_368).find? (fun e => e.1 == 2270) = some (2270, .aload_n 3, 0, 0) := (sk_119 2270 rfl).trans rfl
theorem te_368_2271 : (pT M_368).find? (fun e => e.1 == 2271) = some (2271, .invokestatic 330, 220, 8) := (sk_119 2271 rfl).trans rfl
theorem te_368_2274 : (pT M_368).find? (fun e => e.1 == 2274) = some (2274, .istore 5, 0, 0) := (sk_119 2274 rfl).trans rfl
theorem te_368_2276 : (pT M_368).find? (fun e => e.1 == 2276) = some (2276, .aload_n 2, 0, 0) := (sk_119 2276 rfl).trans rfl
theorem te_368_2277 : (pT M_368).find? (fun e => e.1 == 2277) = some (2277, .aload_n 0, 0, 0) := (sk_120 2277 rfl).trans rfl
theorem te_368_2278 : (pT M_368).find? (fun e => e.1 == 2278) = some (2278, .iload 4, 0, 0) := (sk_120 2278 rfl).trans rfl
theorem te_368_2280 : (pT M_368).find? (fun e => e.1 == 2280) = some (2280, .iconst 1, 0, 0) := (sk_120 2280 rfl).trans rfl
theorem te_368_2281 : (pT M_368).find? (fun e => e.1 == 2281) = some (2281, .iadd, 0, 0) := (sk_120 2281 rfl).trans rfl
theorem te_368_2282 : (pT M_368).find? (fun e => e.1 == 2282) = some (2282, .iaload, 0, 0) := (sk_120 2282 rfl).trans rfl
theorem te_368_2283 : (pT M_368).find? (fun e => e.1 == 2283) = some (2283, .invokevirtual 332, 357, 0) := (sk_120 2283 rfl).trans rfl
theorem te_368_2286 : (pT M_368).find? (fun e => e.1 == 2286) = some (2286, .istore 6, 0, 0) := (sk_120 2286 rfl).trans rfl
theorem te_368_2288 : (pT M_368).find? (fun e => e.1 == 2288) = some (2288, .goto 56, 0, 0) := (sk_120 2288 rfl).trans rfl
theorem lc_34 {S : Nat × (Nat → Int32)} {lv : LV} {h : PH} {c s : Nat} {i : Int32} (hS : S.1 ≤ 3072) (hl : LwS lv i) (hi : 0 ≤ i.toInt ∧ i.toInt + 5 < S.1) (hL : LR h) (hc : c + 8 ≤ 601024) (hs : s + 48 ≤ 7293033) (Nx : ∀ lv' h' c' s', LwS lv' i → LR h' → c' ≤ c + 8 → s' ≤ s + 48 → Vx (Ex S 24) S M_368 [] Q1 2344 lv' [] h' c' s') : Vx (Ex S 24) S M_368 [] Q1 1811 lv [] h c s := by
  have hC := Ex.mono S 24
  refine Vx.go hC te_368_1811 ?_
  refine ⟨_, hl.2.1, ⟨0, Or.inl rfl⟩, ?_⟩
  refine sc_load hC (k := 1) hl te_368_1812 te_368_1813 te_368_1815 te_368_1816 te_368_1817 (sc_in hS hi (by decide)) ?_
  refine Vx.go hC te_368_1818 ?_
  refine ⟨by decide, fun q => ?_, fun q => ?_⟩
  · show Vx (Ex S 24) S M_368 [] Q1 1825 lv [.ref 0] h c s
    refine Vx.go hC te_368_1825 ?_
    refine Vx.go hC te_368_1826 ?_
    refine ⟨_, hl.2.2.2.1, ⟨173, Or.inl rfl⟩, ?_⟩
    refine Vx.go hC te_368_1827 ?_
    refine Or.inr ⟨by decide, ?_⟩
    refine p_call_mk (av := [.ref 0, .int (Int32.ofInt 0), .ref 173]) (rest := []) mt_187 rfl (by decide) (show c + 1 ≤ 601024 by omega) (show s + 6 ≤ 7293033 by omega) (fun q => by cases q) ?_
    refine g_187 (n := 6) hL (fun r3 h1 hL2 => ?_)
    show Vx (Ex S 24) S M_368 [] Q1 1830 lv [.int r3] h1 (c + 1) (s + 6)
    refine Vx.go hC te_368_1830 ?_
    refine ⟨by decide, ?_⟩
    have hl4 := LwS.st (j := 5) (v := .int r3) (by omega) hl
    show Vx (Ex S 24) S M_368 [] Q1 1832 (px_s1 lv 5 (.int r3)) [] h1 (c + 1) (s + 6)
    refine Vx.go hC te_368_1832 ?_
    refine ⟨_, hl4.2.2.1, ⟨143, Or.inl rfl⟩, ?_⟩
    refine sc_load hC (k := 1) hl4 te_368_1833 te_368_1834 te_368_1836 te_368_1837 te_368_1838 (sc_in hS hi (by decide)) ?_
    refine Vx.go hC te_368_1839 ?_
    refine ⟨by decide, fun q => ?_, fun q => ?_⟩
    · show Vx (Ex S 24) S M_368 [] Q1 1846 (px_s1 lv 5 (.int r3)) [.ref 143] h1 (c + 1) (s + 6)
      refine Vx.go hC te_368_1846 ?_
      refine Vx.go hC te_368_1847 ?_
      obtain ⟨gs8, gs8g⟩ := hL2.obj (A := 143) rfl
      have hcall9 := ref_call (S := S) (n := 24) (μ := 343) (args := [.inr 143, .inl ((Int32.ofInt 0) : Int32).toInt]) (h := h1) (fun v hv => by simp only [List.mem_cons, List.not_mem_nil, or_false] at hv; rcases hv with rfl | rfl <;> first | trivial | exact wiI _) hL2 (fun mem hr => f_343 hr (fun r m' a b => ⟨a, b⟩))
      simp only [List.map_cons, List.map_nil, wv, Int32.ofInt_toInt] at hcall9
      refine p_call_mk (av := [.ref 143, .int (Int32.ofInt 0)]) (rest := []) mt_343 rfl (by decide) (show (c + 1) + 0 ≤ 601024 by omega) (show (s + 6) + 0 ≤ 7293033 by omega) (fun _ => ⟨143, gs8, rfl, gs8g⟩) ?_
      refine hC _ _ _ _ _ ?_ hcall9
      rintro _ h5 ⟨hL6, r7, rfl⟩
      show Vx (Ex S 24) S M_368 [] Q1 1850 (px_s1 lv 5 (.int r3)) [.int r7] h5 (c + 1) (s + 6)
      refine Vx.go hC te_368_1850 ?_
      refine ⟨by decide, ?_⟩
      have hl10 := LwS.st (j := 6) (v := .int r7) (by omega) hl4
      show Vx (Ex S 24) S M_368 [] Q1 1852 (px_s1 (px_s1 lv 5 (.int r3)) 6 (.int r7)) [] h5 (c + 1) (s + 6)
      refine Vx.go hC te_368_1852 ?_
      refine ⟨by decide, ?_⟩
      exact Nx _ _ _ _ hl10 hL6 (by omega) (by omega)
    · show Vx (Ex S 24) S M_368 [] Q1 1842 (px_s1 lv 5 (.int r3)) [.ref 143] h1 (c + 1) (s + 6)
      refine Vx.go hC te_368_1842 ?_
      refine Vx.go hC te_368_1843 ?_
      refine ⟨by decide, ?_⟩
      show Vx (Ex S 24) S M_368 [] Q1 1847 (px_s1 lv 5 (.int r3)) [.int (Int32.ofInt 1), .ref 143] h1 (c + 1) (s + 6)
      refine Vx.go hC te_368_1847 ?_
      obtain ⟨gs14, gs14g⟩ := hL2.obj (A := 143) rfl
      have hcall15 := ref_call (S := S) (n := 24) (μ := 343) (args := [.inr 143, .inl ((Int32.ofInt 1) : Int32).toInt]) (h := h1) (fun v hv => by simp only [List.mem_cons, List.not_mem_nil, or_false] at hv; rcases hv with rfl | rfl <;> first | trivial | exact wiI _) hL2 (fun mem hr => f_343 hr (fun r m' a b => ⟨a, b⟩))
      simp only [List.map_cons, List.map_nil, wv, Int32.ofInt_toInt] at hcall15
      refine p_call_mk (av := [.ref 143, .int (Int32.ofInt 1)]) (rest := []) mt_343 rfl (by decide) (show (c + 1) + 0 ≤ 601024 by omega) (show (s + 6) + 0 ≤ 7293033 by omega) (fun _ => ⟨143, gs14, rfl, gs14g⟩) ?_
      refine hC _ _ _ _ _ ?_ hcall15
      rintro _ h11 ⟨hL12, r13, rfl⟩
      show Vx (Ex S 24) S M_368 [] Q1 1850 (px_s1 lv 5 (.int r3)) [.int r13] h11 (c + 1) (s + 6)
      refine Vx.go hC te_368_1850 ?_
      refine ⟨by decide, ?_⟩
      have hl16 := LwS.st (j := 6) (v := .int r13) (by omega) hl4
      show Vx (Ex S 24) S M_368 [] Q1 1852 (px_s1 (px_s1 lv 5 (.int r3)) 6 (.int r13)) [] h11 (c + 1) (s + 6)
      refine Vx.go hC te_368_1852 ?_
      refine ⟨by decide, ?_⟩
      exact Nx _ _ _ _ hl16 hL12 (by omega) (by omega)
  · show Vx (Ex S 24) S M_368 [] Q1 1821 lv [.ref 0] h c s
    refine Vx.go hC te_368_1821 ?_
    refine Vx.go hC te_368_1822 ?_
    refine ⟨by decide, ?_⟩
    show Vx (Ex S 24) S M_368 [] Q1 1826 lv [.int (Int32.ofInt 1), .ref 0] h c s
    refine Vx.go hC te_368_1826 ?_
    refine ⟨_, hl.2.2.2.1, ⟨173, Or.inl rfl⟩, ?_⟩
    refine Vx.go hC te_368_1827 ?_
    refine Or.inr ⟨by decide, ?_⟩
    refine p_call_mk (av := [.ref 0, .int (Int32.ofInt 1), .ref 173]) (rest := []) mt_187 rfl (by decide) (show c + 1 ≤ 601024 by omega) (show s + 6 ≤ 7293033 by omega) (fun q => by cases q) ?_
    refine g_187 (n := 6) hL (fun r19 h17 hL18 => ?_)
    show Vx (Ex S 24) S M_368 [] Q1 1830 lv [.int r19] h17 (c + 1) (s + 6)
    refine Vx.go hC te_368_1830 ?_
    refine ⟨by decide, ?_⟩
    have hl20 := LwS.st (j := 5) (v := .int r19) (by omega) hl
    show Vx (Ex S 24) S M_368 [] Q1 1832 (px_s1 lv 5 (.int r19)) [] h17 (c + 1) (s + 6)
    refine Vx.go hC te_368_1832 ?_
    refine ⟨_, hl20.2.2.1, ⟨143, Or.inl rfl⟩, ?_⟩
    refine sc_load hC (k := 1) hl20 te_368_1833 te_368_1834 te_368_1836 te_368_1837 te_368_1838 (sc_in hS hi (by decide)) ?_
    refine Vx.go hC te_368_1839 ?_
    refine ⟨by decide, fun q => ?_, fun q => ?_⟩
    · show Vx (Ex S 24) S M_368 [] Q1 1846 (px_s1 lv 5 (.int r19)) [.ref 143] h17 (c + 1) (s + 6)
      refine Vx.go hC te_368_1846 ?_
      refine Vx.go hC te_368_1847 ?_
      obtain ⟨gs24, gs24g⟩ := hL18.obj (A := 143) rfl
      have hcall25 := ref_call (S := S) (n := 24) (μ := 343) (args := [.inr 143, .inl ((Int32.ofInt 0) : Int32).toInt]) (h := h17) (fun v hv => by simp only [List.mem_cons, List.not_mem_nil, or_false] at hv; rcases hv with rfl | rfl <;> first | trivial | exact wiI _) hL18 (fun mem hr => f_343 hr (fun r m' a b => ⟨a, b⟩))
      simp only [List.map_cons, List.map_nil, wv, Int32.ofInt_toInt] at hcall25
      refine p_call_mk (av := [.ref 143, .int (Int32.ofInt 0)]) (rest := []) mt_343 rfl (by decide) (show (c + 1) + 0 ≤ 601024 by omega) (show (s + 6) + 0 ≤ 7293033 by omega) (fun _ => ⟨143, gs24, rfl, gs24g⟩) ?_
      refine hC _ _ _ _ _ ?_ hcall25
      rintro _ h21 ⟨hL22, r23, rfl⟩
      show Vx (Ex S 24) S M_368 [] Q1 1850 (px_s1 lv 5 (.int r19)) [.int r23] h21 (c + 1) (s + 6)
      refine Vx.go hC te_368_1850 ?_
      refine ⟨by decide, ?_⟩
      have hl26 := LwS.st (j := 6) (v := .int r23) (by omega) hl20
      show Vx (Ex S 24) S M_368 [] Q1 1852 (px_s1 (px_s1 lv 5 (.int r19)) 6 (.int r23)) [] h21 (c + 1) (s + 6)
      refine Vx.go hC te_368_1852 ?_
      refine ⟨by decide, ?_⟩
      exact Nx _ _ _ _ hl26 hL22 (by omega) (by omega)
    · show Vx (Ex S 24) S M_368 [] Q1 1842 (px_s1 lv 5 (.int r19)) [.ref 143] h17 (c + 1) (s + 6)
      refine Vx.go hC te_368_1842 ?_
      refine Vx.go hC te_368_1843 ?_
      refine ⟨by decide, ?_⟩
      show Vx (Ex S 24) S M_368 [] Q1 1847 (px_s1 lv 5 (.int r19)) [.int (Int32.ofInt 1), .ref 143] h17 (c + 1) (s + 6)
      refine Vx.go hC te_368_1847 ?_
      obtain ⟨gs30, gs30g⟩ := hL18.obj (A := 143) rfl
      have hcall31 := ref_call (S := S) (n := 24) (μ := 343) (args := [.inr 143, .inl ((Int32.ofInt 1) : Int32).toInt]) (h := h17) (fun v hv => by simp only [List.mem_cons, List.not_mem_nil, or_false] at hv; rcases hv with rfl | rfl <;> first | trivial | exact wiI _) hL18 (fun mem hr => f_343 hr (fun r m' a b => ⟨a, b⟩))
      simp only [List.map_cons, List.map_nil, wv, Int32.ofInt_toInt] at hcall31
      refine p_call_mk (av := [.ref 143, .int (Int32.ofInt 1)]) (rest := []) mt_343 rfl (by decide) (show (c + 1) + 0 ≤ 601024 by omega) (show (s + 6) + 0 ≤ 7293033 by omega) (fun _ => ⟨143, gs30, rfl, gs30g⟩) ?_
      refine hC _ _ _ _ _ ?_ hcall31
      rintro _ h27 ⟨hL28, r29, rfl⟩
      show Vx (Ex S 24) S M_368 [] Q1 1850 (px_s1 lv 5 (.int r19)) [.int r29] h27 (c + 1) (s + 6)
      refine Vx.go hC te_368_1850 ?_
      refine ⟨by decide, ?_⟩
      have hl32 := LwS.st (j := 6) (v := .int r29) (by omega) hl20
      show Vx (Ex S 24) S M_368 [] Q1 1852 (px_s1 (px_s1 lv 5 (.int r19)) 6 (.int r29)) [] h27 (c + 1) (s + 6)
      refine Vx.go hC te_368_1852 ?_
      refine ⟨by decide, ?_⟩
      exact Nx _ _ _ _ hl32 hL28 (by omega) (by omega)
theorem lc_35 {S : Nat × (Nat → Int32)} {lv : LV} {h : PH} {c s : Nat} {i : Int32} (hS : S.1 ≤ 3072) (hl : LwS lv i) (hi : 0 ≤ i.toInt ∧ i.toInt + 5 < S.1) (hL : LR h) (hc : c + 8 ≤ 601024) (hs : s + 48 ≤ 7293033) (Nx : ∀ lv' h' c' s', LwS lv' i → LR h' → c' ≤ c + 8 → s' ≤ s + 48 → Vx (Ex S 24) S M_368 [] Q1 2344 lv' [] h' c' s') : Vx (Ex S 24) S M_368 [] Q1 1855 lv [] h c s := by
  have hC := Ex.mono S 24
  refine Vx.go hC te_368_1855 ?_
  refine ⟨_, hl.2.1, ⟨0, Or.inl rfl⟩, ?_⟩
  refine Vx.go hC te_368_1856 ?_
  refine ⟨_, hl.2.2.2.1, ⟨173, Or.inl rfl⟩, ?_⟩
  refine Vx.go hC te_368_1857 ?_
  refine Or.inr ⟨by decide, ?_⟩
  refine p_call_mk (av := [.ref 0, .ref 173]) (rest := []) mt_189 rfl (by decide) (show c + 1 ≤ 601024 by omega) (show s + 6 ≤ 7293033 by omega) (fun q => by cases q) ?_
  refine g_189 (n := 6) hL (fun r3 h1 hL2 => ?_)
  show Vx (Ex S 24) S M_368 [] Q1 1860 lv [.int r3] h1 (c + 1) (s + 6)
  refine Vx.go hC te_368_1860 ?_
  refine ⟨by decide, ?_⟩
  have hl4 := LwS.st (j := 5) (v := .int r3) (by omega) hl
  show Vx (Ex S 24) S M_368 [] Q1 1862 (px_s1 lv 5 (.int r3)) [] h1 (c + 1) (s + 6)
  refine Vx.go hC te_368_1862 ?_
  refine ⟨_, hl4.2.2.1, ⟨143, Or.inl rfl⟩, ?_⟩
  refine Vx.go hC te_368_1863 ?_
  obtain ⟨gs8, gs8g⟩ := hL2.obj (A := 143) rfl
  have hcall9 := ref_call (S := S) (n := 24) (μ := 348) (args := [.inr 143]) (h := h1) (fun v hv => by simp only [List.mem_cons, List.not_mem_nil, or_false] at hv; rw [hv]; trivial) hL2 (fun mem hr => f_348 hr (fun r m' a b => ⟨a, b⟩))
  simp only [List.map_cons, List.map_nil, wv, Int32.ofInt_toInt] at hcall9
  refine p_call_mk (av := [.ref 143]) (rest := []) mt_348 rfl (by decide) (show (c + 1) + 0 ≤ 601024 by omega) (show (s + 6) + 0 ≤ 7293033 by omega) (fun _ => ⟨143, gs8, rfl, gs8g⟩) ?_
  refine hC _ _ _ _ _ ?_ hcall9
  rintro _ h5 ⟨hL6, r7, rfl⟩
  show Vx (Ex S 24) S M_368 [] Q1 1866 (px_s1 lv 5 (.int r3)) [.int r7] h5 (c + 1) (s + 6)
  refine Vx.go hC te_368_1866 ?_
  refine ⟨by decide, ?_⟩
  have hl10 := LwS.st (j := 6) (v := .int r7) (by omega) hl4
  show Vx (Ex S 24) S M_368 [] Q1 1868 (px_s1 (px_s1 lv 5 (.int r3)) 6 (.int r7)) [] h5 (c + 1) (s + 6)
  refine Vx.go hC te_368_1868 ?_
  refine ⟨by decide, ?_⟩
  exact Nx _ _ _ _ hl10 hL6 (by omega) (by omega)
theorem lc_36 {S : Nat × (Nat → Int32)} {lv : LV} {h : PH} {c s : Nat} {i : Int32} (hS : S.1 ≤ 3072) (hl : LwS lv i) (hi : 0 ≤ i.toInt ∧ i.toInt + 5 < S.1) (hL : LR h) (hc : c + 8 ≤ 601024) (hs : s + 48 ≤ 7293033) (Nx : ∀ lv' h' c' s', LwS lv' i → LR h' → c' ≤ c + 8 → s' ≤ s + 48 → Vx (Ex S 24) S M_368 [] Q1 2344 lv' [] h' c' s') : Vx (Ex S 24) S M_368 [] Q1 1871 lv [] h c s := by
  have hC := Ex.mono S 24
  refine Vx.go hC te_368_1871 ?_
  refine ⟨_, hl.2.1, ⟨0, Or.inl rfl⟩, ?_⟩
  refine sc_load hC (k := 1) hl te_368_1872 te_368_1873 te_368_1875 te_368_1876 te_368_1877 (sc_in hS hi (by decide)) ?_
  refine Vx.go hC te_368_1878 ?_
  refine ⟨_, hl.2.2.2.1, ⟨173, Or.inl rfl⟩, ?_⟩
  refine Vx.go hC te_368_1879 ?_
  refine Or.inr ⟨by decide, ?_⟩
  refine p_call_mk (av := [.ref 0, .int (S.2 (i + Int32.ofInt 1).toNatClampNeg), .ref 173]) (rest := []) mt_191 rfl (by decide) (show c + 2 ≤ 601024 by omega) (show s + 12 ≤ 7293033 by omega) (fun q => by cases q) ?_
  refine g_191 (n := 6) hL (fun r3 h1 hL2 => ?_)
  show Vx (Ex S 24) S M_368 [] Q1 1882 lv [.int r3] h1 (c + 2) (s + 12)
  refine Vx.go hC te_368_1882 ?_
  refine ⟨by decide, ?_⟩
  have hl4 := LwS.st (j := 5) (v := .int r3) (by omega) hl
  show Vx (Ex S 24) S M_368 [] Q1 1884 (px_s1 lv 5 (.int r3)) [] h1 (c + 2) (s + 12)
  refine Vx.go hC te_368_1884 ?_
  refine ⟨_, hl4.2.2.1, ⟨143, Or.inl rfl⟩, ?_⟩
  refine sc_load hC (k := 1) hl4 te_368_1885 te_368_1886 te_368_1888 te_368_1889 te_368_1890 (sc_in hS hi (by decide)) ?_
  refine Vx.go hC te_368_1891 ?_
  obtain ⟨gs8, gs8g⟩ := hL2.obj (A := 143) rfl
  have hcall9 := ref_call (S := S) (n := 24) (μ := 349) (args := [.inr 143, .inl ((S.2 (i + Int32.ofInt 1).toNatClampNeg) : Int32).toInt]) (h := h1) (fun v hv => by simp only [List.mem_cons, List.not_mem_nil, or_false] at hv; rcases hv with rfl | rfl <;> first | trivial | exact wiI _) hL2 (fun mem hr => f_349 hr (fun r m' a b => ⟨a, b⟩))
  simp only [List.map_cons, List.map_nil, wv, Int32.ofInt_toInt] at hcall9
  refine p_call_mk (av := [.ref 143, .int (S.2 (i + Int32.ofInt 1).toNatClampNeg)]) (rest := []) mt_349 rfl (by decide) (show (c + 2) + 0 ≤ 601024 by omega) (show (s + 12) + 0 ≤ 7293033 by omega) (fun _ => ⟨143, gs8, rfl, gs8g⟩) ?_
  refine hC _ _ _ _ _ ?_ hcall9
  rintro _ h5 ⟨hL6, r7, rfl⟩
  show Vx (Ex S 24) S M_368 [] Q1 1894 (px_s1 lv 5 (.int r3)) [.int r7] h5 (c + 2) (s + 12)
  refine Vx.go hC te_368_1894 ?_
  refine ⟨by decide, ?_⟩
  have hl10 := LwS.st (j := 6) (v := .int r7) (by omega) hl4
  show Vx (Ex S 24) S M_368 [] Q1 1896 (px_s1 (px_s1 lv 5 (.int r3)) 6 (.int r7)) [] h5 (c + 2) (s + 12)
  refine Vx.go hC te_368_1896 ?_
  refine ⟨by decide, ?_⟩
  exact Nx _ _ _ _ hl10 hL6 (by omega) (by omega)
theorem lc_37 {S : Nat × (Nat → Int32)} {lv : LV} {h : PH} {c s : Nat} {i : Int32} (hS : S.1 ≤ 3072) (hl : LwS lv i) (hi : 0 ≤ i.toInt ∧ i.toInt + 5 < S.1) (hL : LR h) (hc : c + 8 ≤ 601024) (hs : s + 48 ≤ 7293033) (Nx : ∀ lv' h' c' s', LwS lv' i → LR h' → c' ≤ c + 8 → s' ≤ s + 48 → Vx (Ex S 24) S M_368 [] Q1 2344 lv' [] h' c' s') : Vx (Ex S 24) S M_368 [] Q1 1899 lv [] h c s := by
  have hC := Ex.mono S 24
  refine Vx.go hC te_368_1899 ?_
  refine ⟨_, hl.2.1, ⟨0, Or.inl rfl⟩, ?_⟩
  refine Vx.go hC te_368_1900 ?_
  refine ⟨_, hl.2.2.2.1, ⟨173, Or.inl rfl⟩, ?_⟩
  refine Vx.go hC te_368_1901 ?_
  refine Or.inr ⟨by decide, ?_⟩
  refine p_call_mk (av := [.ref 0, .ref 173]) (rest := []) mt_193 rfl (by decide) (show c + 1 ≤ 601024 by omega) (show s + 6 ≤ 7293033 by omega) (fun q => by cases q) ?_
  refine g_193 (n := 6) hL (fun r3 h1 hL2 => ?_)
  show Vx (Ex S 24) S M_368 [] Q1 1904 lv [.int r3] h1 (c + 1) (s + 6)
  refine Vx.go hC te_368_1904 ?_
  refine ⟨by decide, ?_⟩
  have hl4 := LwS.st (j := 5) (v := .int r3) (by omega) hl
  show Vx (Ex S 24) S M_368 [] Q1 1906 (px_s1 lv 5 (.int r3)) [] h1 (c + 1) (s + 6)
  refine Vx.go hC te_368_1906 ?_
  refine ⟨_, hl4.2.2.1, ⟨143, Or.inl rfl⟩, ?_⟩
  refine Vx.go hC te_368_1907 ?_
  obtain ⟨gs8, gs8g⟩ := hL2.obj (A := 143) rfl
  have hcall9 := ref_call (S := S) (n := 24) (μ := 351) (args := [.inr 143]) (h := h1) (fun v hv => by simp only [List.mem_cons, List.not_mem_nil, or_false] at hv; rw [hv]; trivial) hL2 (fun mem hr => f_351 hr (fun r m' a b => ⟨a, b⟩))
  simp only [List.map_cons, List.map_nil, wv, Int32.ofInt_toInt] at hcall9
  refine p_call_mk (av := [.ref 143]) (rest := []) mt_351 rfl (by decide) (show (c + 1) + 0 ≤ 601024 by omega) (show (s + 6) + 0 ≤ 7293033 by omega) (fun _ => ⟨143, gs8, rfl, gs8g⟩) ?_
  refine hC _ _ _ _ _ ?_ hcall9
  rintro _ h5 ⟨hL6, r7, rfl⟩
  show Vx (Ex S 24) S M_368 [] Q1 1910 (px_s1 lv 5 (.int r3)) [.int r7] h5 (c + 1) (s + 6)
  refine Vx.go hC te_368_1910 ?_
  refine ⟨by decide, ?_⟩
  have hl10 := LwS.st (j := 6) (v := .int r7) (by omega) hl4
  show Vx (Ex S 24) S M_368 [] Q1 1912 (px_s1 (px_s1 lv 5 (.int r3)) 6 (.int r7)) [] h5 (c + 1) (s + 6)
  refine Vx.go hC te_368_1912 ?_
  refine ⟨by decide, ?_⟩
  exact Nx _ _ _ _ hl10 hL6 (by omega) (by omega)
theorem lc_38 {S : Nat × (Nat → Int32)} {lv : LV} {h : PH} {c s : Nat} {i : Int32} (hS : S.1 ≤ 3072) (hl : LwS lv i) (hi : 0 ≤ i.toInt ∧ i.toInt + 5 < S.1) (hL : LR h) (hc : c + 8 ≤ 601024) (hs : s + 48 ≤ 7293033) (Nx : ∀ lv' h' c' s', LwS lv' i → LR h' → c' ≤ c + 8 → s' ≤ s + 48 → Vx (Ex S 24) S M_368 [] Q1 2344 lv' [] h' c' s') : Vx (Ex S 24) S M_368 [] Q1 1915 lv [] h c s := by
  have hC := Ex.mono S 24
  refine Vx.go hC te_368_1915 ?_
  refine ⟨_, hl.2.1, ⟨0, Or.inl rfl⟩, ?_⟩
  refine sc_load hC (k := 1) hl te_368_1916 te_368_1917 te_368_1919 te_368_1920 te_368_1921 (sc_in hS hi (by decide)) ?_
  refine Vx.go hC te_368_1922 ?_
  refine ⟨_, hl.2.2.2.1, ⟨173, Or.inl rfl⟩, ?_⟩
  refine Vx.go hC te_368_1923 ?_
  refine Or.inr ⟨by decide, ?_⟩
  refine p_call_mk (av := [.ref 0, .int (S.2 (i + Int32.ofInt 1).toNatClampNeg), .ref 173]) (rest := []) mt_195 rfl (by decide) (show c + 3 ≤ 601024 by omega) (show s + 18 ≤ 7293033 by omega) (fun q => by cases q) ?_
  refine g_195 (n := 6) hL (fun r3 h1 hL2 => ?_)
  show Vx (Ex S 24) S M_368 [] Q1 1926 lv [.int r3] h1 (c + 3) (s + 18)
  refine Vx.go hC te_368_1926 ?_
  refine ⟨by decide, ?_⟩
  have hl4 := LwS.st (j := 5) (v := .int r3) (by omega) hl
  show Vx (Ex S 24) S M_368 [] Q1 1928 (px_s1 lv 5 (.int r3)) [] h1 (c + 3) (s + 18)
  refine Vx.go hC te_368_1928 ?_
  refine ⟨_, hl4.2.2.1, ⟨143, Or.inl rfl⟩, ?_⟩
  refine sc_load hC (k := 1) hl4 te_368_1929 te_368_1930 te_368_1932 te_368_1933 te_368_1934 (sc_in hS hi (by decide)) ?_
  refine Vx.go hC te_368_1935 ?_
  obtain ⟨gs8, gs8g⟩ := hL2.obj (A := 143) rfl
  have hcall9 := ref_call (S := S) (n := 24) (μ := 352) (args := [.inr 143, .inl ((S.2 (i + Int32.ofInt 1).toNatClampNeg) : Int32).toInt]) (h := h1) (fun v hv => by simp only [List.mem_cons, List.not_mem_nil, or_false] at hv; rcases hv with rfl | rfl <;> first | trivial | exact wiI _) hL2 (fun mem hr => f_352 hr (fun r m' a b => ⟨a, b⟩))
  simp only [List.map_cons, List.map_nil, wv, Int32.ofInt_toInt] at hcall9
  refine p_call_mk (av := [.ref 143, .int (S.2 (i + Int32.ofInt 1).toNatClampNeg)]) (rest := []) mt_352 rfl (by decide) (show (c + 3) + 0 ≤ 601024 by omega) (show (s + 18) + 0 ≤ 7293033 by omega) (fun _ => ⟨143, gs8, rfl, gs8g⟩) ?_
  refine hC _ _ _ _ _ ?_ hcall9
  rintro _ h5 ⟨hL6, r7, rfl⟩
  show Vx (Ex S 24) S M_368 [] Q1 1938 (px_s1 lv 5 (.int r3)) [.int r7] h5 (c + 3) (s + 18)
  refine Vx.go hC te_368_1938 ?_
  refine ⟨by decide, ?_⟩
  have hl10 := LwS.st (j := 6) (v := .int r7) (by omega) hl4
  show Vx (Ex S 24) S M_368 [] Q1 1940 (px_s1 (px_s1 lv 5 (.int r3)) 6 (.int r7)) [] h5 (c + 3) (s + 18)
  refine Vx.go hC te_368_1940 ?_
  refine ⟨by decide, ?_⟩
  exact Nx _ _ _ _ hl10 hL6 (by omega) (by omega)
theorem lc_39 {S : Nat × (Nat → Int32)} {lv : LV} {h : PH} {c s : Nat} {i : Int32} (hS : S.1 ≤ 3072) (hl : LwS lv i) (hi : 0 ≤ i.toInt ∧ i.toInt + 5 < S.1) (hL : LR h) (hc : c + 8 ≤ 601024) (hs : s + 48 ≤ 7293033) (Nx : ∀ lv' h' c' s', LwS lv' i → LR h' → c' ≤ c + 8 → s' ≤ s + 48 → Vx (Ex S 24) S M_368 [] Q1 2344 lv' [] h' c' s') : Vx (Ex S 24) S M_368 [] Q1 1943 lv [] h c s := by
  have hC := Ex.mono S 24
  refine Vx.go hC te_368_1943 ?_
  refine ⟨_, hl.2.1, ⟨0, Or.inl rfl⟩, ?_⟩
  refine sc_load hC (k := 1) hl te_368_1944 te_368_1945 te_368_1947 te_368_1948 te_368_1949 (sc_in hS hi (by decide)) ?_
  refine Vx.go hC te_368_1950 ?_
  refine ⟨_, hl.2.2.2.1, ⟨173, Or.inl rfl⟩, ?_⟩
  refine Vx.go hC te_368_1951 ?_
  refine Or.inr ⟨by decide, ?_⟩
  refine p_call_mk (av := [.ref 0, .int (S.2 (i + Int32.ofInt 1).toNatClampNeg), .ref 173]) (rest := []) mt_197 rfl (by decide) (show c + 2 ≤ 601024 by omega) (show s + 12 ≤ 7293033 by omega) (fun q => by cases q) ?_
  refine g_197 (n := 6) hL (fun r3 h1 hL2 => ?_)
  show Vx (Ex S 24) S M_368 [] Q1 1954 lv [.int r3] h1 (c + 2) (s + 12)
  refine Vx.go hC te_368_1954 ?_
  refine ⟨by decide, ?_⟩
  have hl4 := LwS.st (j := 5) (v := .int r3) (by omega) hl
  show Vx (Ex S 24) S M_368 [] Q1 1956 (px_s1 lv 5 (.int r3)) [] h1 (c + 2) (s + 12)
  refine Vx.go hC te_368_1956 ?_
  refine ⟨_, hl4.2.2.1, ⟨143, Or.inl rfl⟩, ?_⟩
  refine sc_load hC (k := 1) hl4 te_368_1957 te_368_1958 te_368_1960 te_368_1961 te_368_1962 (sc_in hS hi (by decide)) ?_
  refine Vx.go hC te_368_1963 ?_
  obtain ⟨gs8, gs8g⟩ := hL2.obj (A := 143) rfl
  have hcall9 := ref_call (S := S) (n := 24) (μ := 355) (args := [.inr 143, .inl ((S.2 (i + Int32.ofInt 1).toNatClampNeg) : Int32).toInt]) (h := h1) (fun v hv => by simp only [List.mem_cons, List.not_mem_nil, or_false] at hv; rcases hv with rfl | rfl <;> first | trivial | exact wiI _) hL2 (fun mem hr => f_355 hr (fun r m' a b => ⟨a, b⟩))
  simp only [List.map_cons, List.map_nil, wv, Int32.ofInt_toInt] at hcall9
  refine p_call_mk (av := [.ref 143, .int (S.2 (i + Int32.ofInt 1).toNatClampNeg)]) (rest := []) mt_355 rfl (by decide) (show (c + 2) + 0 ≤ 601024 by omega) (show (s + 12) + 0 ≤ 7293033 by omega) (fun _ => ⟨143, gs8, rfl, gs8g⟩) ?_
  refine hC _ _ _ _ _ ?_ hcall9
  rintro _ h5 ⟨hL6, r7, rfl⟩
  show Vx (Ex S 24) S M_368 [] Q1 1966 (px_s1 lv 5 (.int r3)) [.int r7] h5 (c + 2) (s + 12)
  refine Vx.go hC te_368_1966 ?_
  refine ⟨by decide, ?_⟩
  have hl10 := LwS.st (j := 6) (v := .int r7) (by omega) hl4
  show Vx (Ex S 24) S M_368 [] Q1 1968 (px_s1 (px_s1 lv 5 (.int r3)) 6 (.int r7)) [] h5 (c + 2) (s + 12)
  refine Vx.go hC te_368_1968 ?_
  refine ⟨by decide, ?_⟩
  exact Nx _ _ _ _ hl10 hL6 (by omega) (by omega)
theorem lc_40 {S : Nat × (Nat → Int32)} {lv : LV} {h : PH} {c s : Nat} {i : Int32} (hS : S.1 ≤ 3072) (hl : LwS lv i) (hi : 0 ≤ i.toInt ∧ i.toInt + 5 < S.1) (hL : LR h) (hc : c + 8 ≤ 601024) (hs : s + 48 ≤ 7293033) (Nx : ∀ lv' h' c' s', LwS lv' i → LR h' → c' ≤ c + 8 → s' ≤ s + 48 → Vx (Ex S 24) S M_368 [] Q1 2344 lv' [] h' c' s') : Vx (Ex S 24) S M_368 [] Q1 1971 lv [] h c s := by
  have hC := Ex.mono S 24
  refine Vx.go hC te_368_1971 ?_
  refine ⟨_, hl.2.1, ⟨0, Or.inl rfl⟩, ?_⟩
  refine sc_load hC (k := 1) hl te_368_1972 te_368_1973 te_368_1975 te_368_1976 te_368_1977 (sc_in hS hi (by decide)) ?_
  refine sc_load hC (k := 2) hl te_368_1978 te_368_1979 te_368_1981 te_368_1982 te_368_1983 (sc_in hS hi (by decide)) ?_
  refine Vx.go hC te_368_1984 ?_
  refine ⟨_, hl.2.2.2.1, ⟨173, Or.inl rfl⟩, ?_⟩
  refine Vx.go hC te_368_1985 ?_
  refine Or.inr ⟨by decide, ?_⟩
  refine p_call_mk (av := [.ref 0, .int (S.2 (i + Int32.ofInt 1).toNatClampNeg), .int (S.2 (i + Int32.ofInt 2).toNatClampNeg), .ref 173]) (rest := []) mt_200 rfl (by decide) (show c + 4 ≤ 601024 by omega) (show s + 24 ≤ 7293033 by omega) (fun q => by cases q) ?_
  refine g_200 (n := 6) hL (fun r3 h1 hL2 => ?_)
  show Vx (Ex S 24) S M_368 [] Q1 1988 lv [.int r3] h1 (c + 4) (s + 24)
  refine Vx.go hC te_368_1988 ?_
  refine ⟨by decide, ?_⟩
  have hl4 := LwS.st (j := 5) (v := .int r3) (by omega) hl
  show Vx (Ex S 24) S M_368 [] Q1 1990 (px_s1 lv 5 (.int r3)) [] h1 (c + 4) (s + 24)
  refine Vx.go hC te_368_1990 ?_
  refine ⟨_, hl4.2.2.1, ⟨143, Or.inl rfl⟩, ?_⟩
  refine sc_load hC (k := 1) hl4 te_368_1991 te_368_1992 te_368_1994 te_368_1995 te_368_1996 (sc_in hS hi (by decide)) ?_
  refine sc_load hC (k := 2) hl4 te_368_1997 te_368_1998 te_368_2000 te_368_2001 te_368_2002 (sc_in hS hi (by decide)) ?_
  refine Vx.go hC te_368_2003 ?_
  obtain ⟨gs8, gs8g⟩ := hL2.obj (A := 143) rfl
  have hcall9 := ref_call (S := S) (n := 24) (μ := 356) (args := [.inr 143, .inl ((S.2 (i + Int32.ofInt 1).toNatClampNeg) : Int32).toInt, .inl ((S.2 (i + Int32.ofInt 2).toNatClampNeg) : Int32).toInt]) (h := h1) (fun v hv => by simp only [List.mem_cons, List.not_mem_nil, or_false] at hv; rcases hv with rfl | rfl | rfl <;> first | trivial | exact wiI _) hL2 (fun mem hr => f_356 hr (fun r m' a b => ⟨a, b⟩))
  simp only [List.map_cons, List.map_nil, wv, Int32.ofInt_toInt] at hcall9
  refine p_call_mk (av := [.ref 143, .int (S.2 (i + Int32.ofInt 1).toNatClampNeg), .int (S.2 (i + Int32.ofInt 2).toNatClampNeg)]) (rest := []) mt_356 rfl (by decide) (show (c + 4) + 0 ≤ 601024 by omega) (show (s + 24) + 0 ≤ 7293033 by omega) (fun _ => ⟨143, gs8, rfl, gs8g⟩) ?_
  refine hC _ _ _ _ _ ?_ hcall9
  rintro _ h5 ⟨hL6, r7, rfl⟩
  show Vx (Ex S 24) S M_368 [] Q1 2006 (px_s1 lv 5 (.int r3)) [.int r7] h5 (c + 4) (s + 24)
  refine Vx.go hC te_368_2006 ?_
  refine ⟨by decide, ?_⟩
  have hl10 := LwS.st (j := 6) (v := .int r7) (by omega) hl4
  show Vx (Ex S 24) S M_368 [] Q1 2008 (px_s1 (px_s1 lv 5 (.int r3)) 6 (.int r7)) [] h5 (c + 4) (s + 24)
  refine Vx.go hC te_368_2008 ?_
  refine ⟨by decide, ?_⟩
  exact Nx _ _ _ _ hl10 hL6 (by omega) (by omega)
theorem lc_41 {S : Nat × (Nat → Int32)} {lv : LV} {h : PH} {c s : Nat} {i : Int32} (hS : S.1 ≤ 3072) (hl : LwS lv i) (hi : 0 ≤ i.toInt ∧ i.toInt + 5 < S.1) (hL : LR h) (hc : c + 8 ≤ 601024) (hs : s + 48 ≤ 7293033) (Nx : ∀ lv' h' c' s', LwS lv' i → LR h' → c' ≤ c + 8 → s' ≤ s + 48 → Vx (Ex S 24) S M_368 [] Q1 2344 lv' [] h' c' s') : Vx (Ex S 24) S M_368 [] Q1 2011 lv [] h c s := by
  have hC := Ex.mono S 24
  refine Vx.go hC te_368_2011 ?_
  refine ⟨_, hl.2.1, ⟨0, Or.inl rfl⟩, ?_⟩
  refine sc_load hC (k := 1) hl te_368_2012 te_368_2013 te_368_2015 te_368_2016 te_368_2017 (sc_in hS hi (by decide)) ?_
  refine sc_load hC (k := 2) hl te_368_2018 te_368_2019 te_368_2021 te_368_2022 te_368_2023 (sc_in hS hi (by decide)) ?_
  refine sc_load hC (k := 3) hl te_368_2024 te_368_2025 te_368_2027 te_368_2028 te_368_2029 (sc_in hS hi (by decide)) ?_
  refine Vx.go hC te_368_2030 ?_
  refine ⟨by decide, fun q => ?_, fun q => ?_⟩
  · show Vx (Ex S 24) S M_368 [] Q1 2037 lv [.int (S.2 (i + Int32.ofInt 2).toNatClampNeg), .int (S.2 (i + Int32.ofInt 1).toNatClampNeg), .ref 0] h c s
    refine Vx.go hC te_368_2037 ?_
    refine Vx.go hC te_368_2038 ?_
    refine ⟨_, hl.2.2.2.1, ⟨173, Or.inl rfl⟩, ?_⟩
    refine Vx.go hC te_368_2039 ?_
    refine Or.inr ⟨by decide, ?_⟩
    refine p_call_mk (av := [.ref 0, .int (S.2 (i + Int32.ofInt 1).toNatClampNeg), .int (S.2 (i + Int32.ofInt 2).toNatClampNeg), .int (Int32.ofInt 0), .ref 173]) (rest := []) mt_202 rfl (by decide) (show c + 4 ≤ 601024 by omega) (show s + 24 ≤ 7293033 by omega) (fun q => by cases q) ?_
    refine g_202 (n := 6) hL (fun r3 h1 hL2 => ?_)
    show Vx (Ex S 24) S M_368 [] Q1 2042 lv [.int r3] h1 (c + 4) (s + 24)
    refine Vx.go hC te_368_2042 ?_
    refine ⟨by decide, ?_⟩
    have hl4 := LwS.st (j := 5) (v := .int r3) (by omega) hl
    show Vx (Ex S 24) S M_368 [] Q1 2044 (px_s1 lv 5 (.int r3)) [] h1 (c + 4) (s + 24)
    refine Vx.go hC te_368_2044 ?_
    refine ⟨_, hl4.2.2.1, ⟨143, Or.inl rfl⟩, ?_⟩
    refine sc_load hC (k := 1) hl4 te_368_2045 te_368_2046 te_368_2048 te_368_2049 te_368_2050 (sc_in hS hi (by decide)) ?_
    refine sc_load hC (k := 2) hl4 te_368_2051 te_368_2052 te_368_2054 te_368_2055 te_368_2056 (sc_in hS hi (by decide)) ?_
    refine sc_load hC (k := 3) hl4 te_368_2057 te_368_2058 te_368_2060 te_368_2061 te_368_2062 (sc_in hS hi (by decide)) ?_
    refine Vx.go hC te_368_2063 ?_
    refine ⟨by decide, fun q => ?_, fun q => ?_⟩
    · show Vx (Ex S 24) S M_368 [] Q1 2070 (px_s1 lv 5 (.int r3)) [.int (S.2 (i + Int32.ofInt 2).toNatClampNeg), .int (S.2 (i + Int32.ofInt 1).toNatClampNeg), .ref 143] h1 (c + 4) (s + 24)
      refine Vx.go hC te_368_2070 ?_
      refine Vx.go hC te_368_2071 ?_
      obtain ⟨gs8, gs8g⟩ := hL2.obj (A := 143) rfl
      have hcall9 := ref_call (S := S) (n := 24) (μ := 359) (args := [.inr 143, .inl ((S.2 (i + Int32.ofInt 1).toNatClampNeg) : Int32).toInt, .inl ((S.2 (i + Int32.ofInt 2).toNatClampNeg) : Int32).toInt, .inl ((Int32.ofInt 0) : Int32).toInt]) (h := h1) (fun v hv => by simp only [List.mem_cons, List.not_mem_nil, or_false] at hv; rcases hv with rfl | rfl | rfl | rfl <;> first | trivial | exact wiI _) hL2 (fun mem hr => f_359 hr (fun r m' a b => ⟨a, b⟩))
      simp only [List.map_cons, List.map_nil, wv, Int32.ofInt_toInt] at hcall9
      refine p_call_mk (av := [.ref 143, .int (S.2 (i + Int32.ofInt 1).toNatClampNeg), .int (S.2 (i + Int32.ofInt 2).toNatClampNeg), .int (Int32.ofInt 0)]) (rest := []) mt_359 rfl (by decide) (show (c + 4) + 0 ≤ 601024 by omega) (show (s + 24) + 0 ≤ 7293033 by omega) (fun _ => ⟨143, gs8, rfl, gs8g⟩) ?_
      refine hC _ _ _ _ _ ?_ hcall9
      rintro _ h5 ⟨hL6, r7, rfl⟩
      show Vx (Ex S 24) S M_368 [] Q1 2074 (px_s1 lv 5 (.int r3)) [.int r7] h5 (c + 4) (s + 24)
      refine Vx.go hC te_368_2074 ?_
      refine ⟨by decide, ?_⟩
      have hl10 := LwS.st (j := 6) (v := .int r7) (by omega) hl4
      show Vx (Ex S 24) S M_368 [] Q1 2076 (px_s1 (px_s1 lv 5 (.int r3)) 6 (.int r7)) [] h5 (c + 4) (s + 24)
      refine Vx.go hC te_368_2076 ?_
      refine ⟨by decide, ?_⟩
      exact Nx _ _ _ _ hl10 hL6 (by omega) (by omega)
    · show Vx (Ex S 24) S M_368 [] Q1 2066 (px_s1 lv 5 (.int r3)) [.int (S.2 (i + Int32.ofInt 2).toNatClampNeg), .int (S.2 (i + Int32.ofInt 1).toNatClampNeg), .ref 143] h1 (c + 4) (s + 24)
      refine Vx.go hC te_368_2066 ?_
      refine Vx.go hC te_368_2067 ?_
      refine ⟨by decide, ?_⟩
      show Vx (Ex S 24) S M_368 [] Q1 2071 (px_s1 lv 5 (.int r3)) [.int (Int32.ofInt 1), .int (S.2 (i + Int32.ofInt 2).toNatClampNeg), .int (S.2 (i + Int32.ofInt 1).toNatClampNeg), .ref 143] h1 (c + 4) (s + 24)
      refine Vx.go hC te_368_2071 ?_
      obtain ⟨gs14, gs14g⟩ := hL2.obj (A := 143) rfl
      have hcall15 := ref_call (S := S) (n := 24) (μ := 359) (args := [.inr 143, .inl ((S.2 (i + Int32.ofInt 1).toNatClampNeg) : Int32).toInt, .inl ((S.2 (i + Int32.ofInt 2).toNatClampNeg) : Int32).toInt, .inl ((Int32.ofInt 1) : Int32).toInt]) (h := h1) (fun v hv => by simp only [List.mem_cons, List.not_mem_nil, or_false] at hv; rcases hv with rfl | rfl | rfl | rfl <;> first | trivial | exact wiI _) hL2 (fun mem hr => f_359 hr (fun r m' a b => ⟨a, b⟩))
      simp only [List.map_cons, List.map_nil, wv, Int32.ofInt_toInt] at hcall15
      refine p_call_mk (av := [.ref 143, .int (S.2 (i + Int32.ofInt 1).toNatClampNeg), .int (S.2 (i + Int32.ofInt 2).toNatClampNeg), .int (Int32.ofInt 1)]) (rest := []) mt_359 rfl (by decide) (show (c + 4) + 0 ≤ 601024 by omega) (show (s + 24) + 0 ≤ 7293033 by omega) (fun _ => ⟨143, gs14, rfl, gs14g⟩) ?_
      refine hC _ _ _ _ _ ?_ hcall15
      rintro _ h11 ⟨hL12, r13, rfl⟩
      show Vx (Ex S 24) S M_368 [] Q1 2074 (px_s1 lv 5 (.int r3)) [.int r13] h11 (c + 4) (s + 24)
      refine Vx.go hC te_368_2074 ?_
      refine ⟨by decide, ?_⟩
      have hl16 := LwS.st (j := 6) (v := .int r13) (by omega) hl4
      show Vx (Ex S 24) S M_368 [] Q1 2076 (px_s1 (px_s1 lv 5 (.int r3)) 6 (.int r13)) [] h11 (c + 4) (s + 24)
      refine Vx.go hC te_368_2076 ?_
      refine ⟨by decide, ?_⟩
      exact Nx _ _ _ _ hl16 hL12 (by omega) (by omega)
  · show Vx (Ex S 24) S M_368 [] Q1 2033 lv [.int (S.2 (i + Int32.ofInt 2).toNatClampNeg), .int (S.2 (i + Int32.ofInt 1).toNatClampNeg), .ref 0] h c s
    refine Vx.go hC te_368_2033 ?_
    refine Vx.go hC te_368_2034 ?_
    refine ⟨by decide, ?_⟩
    show Vx (Ex S 24) S M_368 [] Q1 2038 lv [.int (Int32.ofInt 1), .int (S.2 (i + Int32.ofInt 2).toNatClampNeg), .int (S.2 (i + Int32.ofInt 1).toNatClampNeg), .ref 0] h c s
    refine Vx.go hC te_368_2038 ?_
    refine ⟨_, hl.2.2.2.1, ⟨173, Or.inl rfl⟩, ?_⟩
    refine Vx.go hC te_368_2039 ?_
    refine Or.inr ⟨by decide, ?_⟩
    refine p_call_mk (av := [.ref 0, .int (S.2 (i + Int32.ofInt 1).toNatClampNeg), .int (S.2 (i + Int32.ofInt 2).toNatClampNeg), .int (Int32.ofInt 1), .ref 173]) (rest := []) mt_202 rfl (by decide) (show c + 4 ≤ 601024 by omega) (show s + 24 ≤ 7293033 by omega) (fun q => by cases q) ?_
    refine g_202 (n := 6) hL (fun r19 h17 hL18 => ?_)
    show Vx (Ex S 24) S M_368 [] Q1 2042 lv [.int r19] h17 (c + 4) (s + 24)
    refine Vx.go hC te_368_2042 ?_
    refine ⟨by decide, ?_⟩
    have hl20 := LwS.st (j := 5) (v := .int r19) (by omega) hl
    show Vx (Ex S 24) S M_368 [] Q1 2044 (px_s1 lv 5 (.int r19)) [] h17 (c + 4) (s + 24)
    refine Vx.go hC te_368_2044 ?_
    refine ⟨_, hl20.2.2.1, ⟨143, Or.inl rfl⟩, ?_⟩
    refine sc_load hC (k := 1) hl20 te_368_2045 te_368_2046 te_368_2048 te_368_2049 te_368_2050 (sc_in hS hi (by decide)) ?_
    refine sc_load hC (k := 2) hl20 te_368_2051 te_368_2052 te_368_2054 te_368_2055 te_368_2056 (sc_in hS hi (by decide)) ?_
    refine sc_load hC (k := 3) hl20 te_368_2057 te_368_2058 te_368_2060 te_368_2061 te_368_2062 (sc_in hS hi (by decide)) ?_
    refine Vx.go hC te_368_2063 ?_
    refine ⟨by decide, fun q => ?_, fun q => ?_⟩
    · show Vx (Ex S 24) S M_368 [] Q1 2070 (px_s1 lv 5 (.int r19)) [.int (S.2 (i + Int32.ofInt 2).toNatClampNeg), .int (S.2 (i + Int32.ofInt 1).toNatClampNeg), .ref 143] h17 (c + 4) (s + 24)
      refine Vx.go hC te_368_2070 ?_
      refine Vx.go hC te_368_2071 ?_
      obtain ⟨gs24, gs24g⟩ := hL18.obj (A := 143) rfl
      have hcall25 := ref_call (S := S) (n := 24) (μ := 359) (args := [.inr 143, .inl ((S.2 (i + Int32.ofInt 1).toNatClampNeg) : Int32).toInt, .inl ((S.2 (i + Int32.ofInt 2).toNatClampNeg) : Int32).toInt, .inl ((Int32.ofInt 0) : Int32).toInt]) (h := h17) (fun v hv => by simp only [List.mem_cons, List.not_mem_nil, or_false] at hv; rcases hv with rfl | rfl | rfl | rfl <;> first | trivial | exact wiI _) hL18 (fun mem hr => f_359 hr (fun r m' a b => ⟨a, b⟩))
      simp only [List.map_cons, List.map_nil, wv, Int32.ofInt_toInt] at hcall25
      refine p_call_mk (av := [.ref 143, .int (S.2 (i + Int32.ofInt 1).toNatClampNeg), .int (S.2 (i + Int32.ofInt 2).toNatClampNeg), .int (Int32.ofInt 0)]) (rest := []) mt_359 rfl (by decide) (show (c + 4) + 0 ≤ 601024 by omega) (show (s + 24) + 0 ≤ 7293033 by omega) (fun _ => ⟨143, gs24, rfl, gs24g⟩) ?_
      refine hC _ _ _ _ _ ?_ hcall25
      rintro _ h21 ⟨hL22, r23, rfl⟩
      show Vx (Ex S 24) S M_368 [] Q1 2074 (px_s1 lv 5 (.int r19)) [.int r23] h21 (c + 4) (s + 24)
      refine Vx.go hC te_368_2074 ?_
      refine ⟨by decide, ?_⟩
      have hl26 := LwS.st (j := 6) (v := .int r23) (by omega) hl20
      show Vx (Ex S 24) S M_368 [] Q1 2076 (px_s1 (px_s1 lv 5 (.int r19)) 6 (.int r23)) [] h21 (c + 4) (s + 24)
      refine Vx.go hC te_368_2076 ?_
      refine ⟨by decide, ?_⟩
      exact Nx _ _ _ _ hl26 hL22 (by omega) (by omega)
    · show Vx (Ex S 24) S M_368 [] Q1 2066 (px_s1 lv 5 (.int r19)) [.int (S.2 (i + Int32.ofInt 2).toNatClampNeg), .int (S.2 (i + Int32.ofInt 1).toNatClampNeg), .ref 143] h17 (c + 4) (s + 24)
      refine Vx.go hC te_368_2066 ?_
      refine Vx.go hC te_368_2067 ?_
      refine ⟨by decide, ?_⟩
      show Vx (Ex S 24) S M_368 [] Q1 2071 (px_s1 lv 5 (.int r19)) [.int (Int32.ofInt 1), .int (S.2 (i + Int32.ofInt 2).toNatClampNeg), .int (S.2 (i + Int32.ofInt 1).toNatClampNeg), .ref 143] h17 (c + 4) (s + 24)
      refine Vx.go hC te_368_2071 ?_
      obtain ⟨gs30, gs30g⟩ := hL18.obj (A := 143) rfl
      have hcall31 := ref_call (S := S) (n := 24) (μ := 359) (args := [.inr 143, .inl ((S.2 (i + Int32.ofInt 1).toNatClampNeg) : Int32).toInt, .inl ((S.2 (i + Int32.ofInt 2).toNatClampNeg) : Int32).toInt, .inl ((Int32.ofInt 1) : Int32).toInt]) (h := h17) (fun v hv => by simp only [List.mem_cons, List.not_mem_nil, or_false] at hv; rcases hv with rfl | rfl | rfl | rfl <;> first | trivial | exact wiI _) hL18 (fun mem hr => f_359 hr (fun r m' a b => ⟨a, b⟩))
      simp only [List.map_cons, List.map_nil, wv, Int32.ofInt_toInt] at hcall31
      refine p_call_mk (av := [.ref 143, .int (S.2 (i + Int32.ofInt 1).toNatClampNeg), .int (S.2 (i + Int32.ofInt 2).toNatClampNeg), .int (Int32.ofInt 1)]) (rest := []) mt_359 rfl (by decide) (show (c + 4) + 0 ≤ 601024 by omega) (show (s + 24) + 0 ≤ 7293033 by omega) (fun _ => ⟨143, gs30, rfl, gs30g⟩) ?_
      refine hC _ _ _ _ _ ?_ hcall31
      rintro _ h27 ⟨hL28, r29, rfl⟩
      show Vx (Ex S 24) S M_368 [] Q1 2074 (px_s1 lv 5 (.int r19)) [.int r29] h27 (c + 4) (s + 24)
      refine Vx.go hC te_368_2074 ?_
      refine ⟨by decide, ?_⟩
      have hl32 := LwS.st (j := 6) (v := .int r29) (by omega) hl20
      show Vx (Ex S 24) S M_368 [] Q1 2076 (px_s1 (px_s1 lv 5 (.int r19)) 6 (.int r29)) [] h27 (c + 4) (s + 24)
      refine Vx.go hC te_368_2076 ?_
      refine ⟨by decide, ?_⟩
      exact Nx _ _ _ _ hl32 hL28 (by omega) (by omega)
theorem lc_42 {S : Nat × (Nat → Int32)} {lv : LV} {h : PH} {c s : Nat} {i : Int32} (hS : S.1 ≤ 3072) (hl : LwS lv i) (hi : 0 ≤ i.toInt ∧ i.toInt + 5 < S.1) (hL : LR h) (hc : c + 8 ≤ 601024) (hs : s + 48 ≤ 7293033) (Nx : ∀ lv' h' c' s', LwS lv' i → LR h' → c' ≤ c + 8 → s' ≤ s + 48 → Vx (Ex S 24) S M_368 [] Q1 2344 lv' [] h' c' s') : Vx (Ex S 24) S M_368 [] Q1 2079 lv [] h c s := by
  have hC := Ex.mono S 24
  refine Vx.go hC te_368_2079 ?_
  refine ⟨_, hl.2.1, ⟨0, Or.inl rfl⟩, ?_⟩
  refine sc_load hC (k := 1) hl te_368_2080 te_368_2081 te_368_2083 te_368_2084 te_368_2085 (sc_in hS hi (by decide)) ?_
  refine sc_load hC (k := 2) hl te_368_2086 te_368_2087 te_368_2089 te_368_2090 te_368_2091 (sc_in hS hi (by decide)) ?_
  refine sc_load hC (k := 3) hl te_368_2092 te_368_2093 te_368_2095 te_368_2096 te_368_2097 (sc_in hS hi (by decide)) ?_
  refine Vx.go hC te_368_2098 ?_
  refine ⟨_, hl.2.2.2.1, ⟨173, Or.inl rfl⟩, ?_⟩
  refine Vx.go hC te_368_2099 ?_
  refine Or.inr ⟨by decide, ?_⟩
  refine p_call_mk (av := [.ref 0, .int (S.2 (i + Int32.ofInt 1).toNatClampNeg), .int (S.2 (i + Int32.ofInt 2).toNatClampNeg), .int (S.2 (i + Int32.ofInt 3).toNatClampNeg), .ref 173]) (rest := []) mt_206 rfl (by decide) (show c + 6 ≤ 601024 by omega) (show s + 36 ≤ 7293033 by omega) (fun q => by cases q) ?_
  refine g_206 (n := 6) hL (fun r3 h1 hL2 => ?_)
  show Vx (Ex S 24) S M_368 [] Q1 2102 lv [.int r3] h1 (c + 6) (s + 36)
  refine Vx.go hC te_368_2102 ?_
  refine ⟨by decide, ?_⟩
  have hl4 := LwS.st (j := 5) (v := .int r3) (by omega) hl
  show Vx (Ex S 24) S M_368 [] Q1 2104 (px_s1 lv 5 (.int r3)) [] h1 (c + 6) (s + 36)
  refine Vx.go hC te_368_2104 ?_
  refine ⟨_, hl4.2.2.1, ⟨143, Or.inl rfl⟩, ?_⟩
  refine sc_load hC (k := 1) hl4 te_368_2105 te_368_2106 te_368_2108 te_368_2109 te_368_2110 (sc_in hS hi (by decide)) ?_
  refine sc_load hC (k := 2) hl4 te_368_2111 te_368_2112 te_368_2114 te_368_2115 te_368_2116 (sc_in hS hi (by decide)) ?_
  refine sc_load hC (k := 3) hl4 te_368_2117 te_368_2118 te_368_2120 te_368_2121 te_368_2122 (sc_in hS hi (by decide)) ?_
  refine Vx.go hC te_368_2123 ?_
  obtain ⟨gs8, gs8g⟩ := hL2.obj (A := 143) rfl
  have hcall9 := ref_call (S := S) (n := 24) (μ := 361) (args := [.inr 143, .inl ((S.2 (i + Int32.ofInt 1).toNatClampNeg) : Int32).toInt, .inl ((S.2 (i + Int32.ofInt 2).toNatClampNeg) : Int32).toInt, .inl ((S.2 (i + Int32.ofInt 3).toNatClampNeg) : Int32).toInt]) (h := h1) (fun v hv => by simp only [List.mem_cons, List.not_mem_nil, or_false] at hv; rcases hv with rfl | rfl | rfl | rfl <;> first | trivial | exact wiI _) hL2 (fun mem hr => f_361 hr (fun r m' a b => ⟨a, b⟩))
  simp only [List.map_cons, List.map_nil, wv, Int32.ofInt_toInt] at hcall9
  refine p_call_mk (av := [.ref 143, .int (S.2 (i + Int32.ofInt 1).toNatClampNeg), .int (S.2 (i + Int32.ofInt 2).toNatClampNeg), .int (S.2 (i + Int32.ofInt 3).toNatClampNeg)]) (rest := []) mt_361 rfl (by decide) (show (c + 6) + 0 ≤ 601024 by omega) (show (s + 36) + 0 ≤ 7293033 by omega) (fun _ => ⟨143, gs8, rfl, gs8g⟩) ?_
  refine hC _ _ _ _ _ ?_ hcall9
  rintro _ h5 ⟨hL6, r7, rfl⟩
  show Vx (Ex S 24) S M_368 [] Q1 2126 (px_s1 lv 5 (.int r3)) [.int r7] h5 (c + 6) (s + 36)
  refine Vx.go hC te_368_2126 ?_
  refine ⟨by decide, ?_⟩
  have hl10 := LwS.st (j := 6) (v := .int r7) (by omega) hl4
  show Vx (Ex S 24) S M_368 [] Q1 2128 (px_s1 (px_s1 lv 5 (.int r3)) 6 (.int r7)) [] h5 (c + 6) (s + 36)
  refine Vx.go hC te_368_2128 ?_
  refine ⟨by decide, ?_⟩
  exact Nx _ _ _ _ hl10 hL6 (by omega) (by omega)
theorem lc_43 {S : Nat × (Nat → Int32)} {lv : LV} {h : PH} {c s : Nat} {i : Int32} (hS : S.1 ≤ 3072) (hl : LwS lv i) (hi : 0 ≤ i.toInt ∧ i.toInt + 5 < S.1) (hL : LR h) (hc : c + 8 ≤ 601024) (hs : s + 48 ≤ 7293033) (Nx : ∀ lv' h' c' s', LwS lv' i → LR h' → c' ≤ c + 8 → s' ≤ s + 48 → Vx (Ex S 24) S M_368 [] Q1 2344 lv' [] h' c' s') : Vx (Ex S 24) S M_368 [] Q1 2131 lv [] h c s := by
  have hC := Ex.mono S 24
  refine Vx.go hC te_368_2131 ?_
  refine ⟨_, hl.2.1, ⟨0, Or.inl rfl⟩, ?_⟩
  refine sc_load hC (k := 1) hl te_368_2132 te_368_2133 te_368_2135 te_368_2136 te_368_2137 (sc_in hS hi (by decide)) ?_
  refine sc_load hC (k := 2) hl te_368_2138 te_368_2139 te_368_2141 te_368_2142 te_368_2143 (sc_in hS hi (by decide)) ?_
  refine Vx.go hC te_368_2144 ?_
  refine ⟨_, hl.2.2.2.1, ⟨173, Or.inl rfl⟩, ?_⟩
  refine Vx.go hC te_368_2145 ?_
  refine Or.inr ⟨by decide, ?_⟩
  refine p_call_mk (av := [.ref 0, .int (S.2 (i + Int32.ofInt 1).toNatClampNeg), .int (S.2 (i + Int32.ofInt 2).toNatClampNeg), .ref 173]) (rest := []) mt_209 rfl (by decide) (show c + 5 ≤ 601024 by omega) (show s + 30 ≤ 7293033 by omega) (fun q => by cases q) ?_
  refine g_209 (n := 6) hL (fun r3 h1 hL2 => ?_)
  show Vx (Ex S 24) S M_368 [] Q1 2148 lv [.int r3] h1 (c + 5) (s + 30)
  refine Vx.go hC te_368_2148 ?_
  refine ⟨by decide, ?_⟩
  have hl4 := LwS.st (j := 5) (v := .int r3) (by omega) hl
  show Vx (Ex S 24) S M_368 [] Q1 2150 (px_s1 lv 5 (.int r3)) [] h1 (c + 5) (s + 30)
  refine Vx.go hC te_368_2150 ?_
  refine ⟨_, hl4.2.2.1, ⟨143, Or.inl rfl⟩, ?_⟩
  refine sc_load hC (k := 1) hl4 te_368_2151 te_368_2152 te_368_2154 te_368_2155 te_368_2156 (sc_in hS hi (by decide)) ?_
  refine sc_load hC (k := 2) hl4 te_368_2157 te_368_2158 te_368_2160 te_368_2161 te_368_2162 (sc_in hS hi (by decide)) ?_
  refine Vx.go hC te_368_2163 ?_
  obtain ⟨gs8, gs8g⟩ := hL2.obj (A := 143) rfl
  have hcall9 := ref_call (S := S) (n := 24) (μ := 362) (args := [.inr 143, .inl ((S.2 (i + Int32.ofInt 1).toNatClampNeg) : Int32).toInt, .inl ((S.2 (i + Int32.ofInt 2).toNatClampNeg) : Int32).toInt]) (h := h1) (fun v hv => by simp only [List.mem_cons, List.not_mem_nil, or_false] at hv; rcases hv with rfl | rfl | rfl <;> first | trivial | exact wiI _) hL2 (fun mem hr => f_362 hr (fun r m' a b => ⟨a, b⟩))
  simp only [List.map_cons, List.map_nil, wv, Int32.ofInt_toInt] at hcall9
  refine p_call_mk (av := [.ref 143, .int (S.2 (i + Int32.ofInt 1).toNatClampNeg), .int (S.2 (i + Int32.ofInt 2).toNatClampNeg)]) (rest := []) mt_362 rfl (by decide) (show (c + 5) + 0 ≤ 601024 by omega) (show (s + 30) + 0 ≤ 7293033 by omega) (fun _ => ⟨143, gs8, rfl, gs8g⟩) ?_
  refine hC _ _ _ _ _ ?_ hcall9
  rintro _ h5 ⟨hL6, r7, rfl⟩
  show Vx (Ex S 24) S M_368 [] Q1 2166 (px_s1 lv 5 (.int r3)) [.int r7] h5 (c + 5) (s + 30)
  refine Vx.go hC te_368_2166 ?_
  refine ⟨by decide, ?_⟩
  have hl10 := LwS.st (j := 6) (v := .int r7) (by omega) hl4
  show Vx (Ex S 24) S M_368 [] Q1 2168 (px_s1 (px_s1 lv 5 (.int r3)) 6 (.int r7)) [] h5 (c + 5) (s + 30)
  refine Vx.go hC te_368_2168 ?_
  refine ⟨by decide, ?_⟩
  exact Nx _ _ _ _ hl10 hL6 (by omega) (by omega)
theorem lc_44 {S : Nat × (Nat → Int32)} {lv : LV} {h : PH} {c s : Nat} {i : Int32} (hS : S.1 ≤ 3072) (hl : LwS lv i) (hi : 0 ≤ i.toInt ∧ i.toInt + 5 < S.1) (hL : LR h) (hc : c + 8 ≤ 601024) (hs : s + 48 ≤ 7293033) (Nx : ∀ lv' h' c' s', LwS lv' i → LR h' → c' ≤ c + 8 → s' ≤ s + 48 → Vx (Ex S 24) S M_368 [] Q1 2344 lv' [] h' c' s') : Vx (Ex S 24) S M_368 [] Q1 2171 lv [] h c s := by
  have hC := Ex.mono S 24
  refine Vx.go hC te_368_2171 ?_
  refine ⟨_, hl.2.1, ⟨0, Or.inl rfl⟩, ?_⟩
  refine sc_load hC (k := 1) hl te_368_2172 te_368_2173 te_368_2175 te_368_2176 te_368_2177 (sc_in hS hi (by decide)) ?_
  refine sc_load hC (k := 2) hl te_368_2178 te_368_2179 te_368_2181 te_368_2182 te_368_2183 (sc_in hS hi (by decide)) ?_
  refine sc_load hC (k := 3) hl te_368_2184 te_368_2185 te_368_2187 te_368_2188 te_368_2189 (sc_in hS hi (by decide)) ?_
  refine sc_load hC (k := 4) hl te_368_2190 te_368_2191 te_368_2193 te_368_2194 te_368_2195 (sc_in hS hi (by decide)) ?_
  refine Vx.go hC te_368_2196 ?_
  refine ⟨_, hl.2.2.2.1, ⟨173, Or.inl rfl⟩, ?_⟩
  refine Vx.go hC te_368_2197 ?_
  refine Or.inr ⟨by decide, ?_⟩
  refine p_call_mk (av := [.ref 0, .int (S.2 (i + Int32.ofInt 1).toNatClampNeg), .int (S.2 (i + Int32.ofInt 2).toNatClampNeg), .int (S.2 (i + Int32.ofInt 3).toNatClampNeg), .int (S.2 (i + Int32.ofInt 4).toNatClampNeg), .ref 173]) (rest := []) mt_213 rfl (by decide) (show c + 6 ≤ 601024 by omega) (show s + 36 ≤ 7293033 by omega) (fun q => by cases q) ?_
  refine g_213 (n := 6) hL (fun r3 h1 hL2 => ?_)
  show Vx (Ex S 24) S M_368 [] Q1 2200 lv [.int r3] h1 (c + 6) (s + 36)
  refine Vx.go hC te_368_2200 ?_
  refine ⟨by decide, ?_⟩
  have hl4 := LwS.st (j := 5) (v := .int r3) (by omega) hl
  show Vx (Ex S 24) S M_368 [] Q1 2202 (px_s1 lv 5 (.int r3)) [] h1 (c + 6) (s + 36)
  refine Vx.go hC te_368_2202 ?_
  refine ⟨_, hl4.2.2.1, ⟨143, Or.inl rfl⟩, ?_⟩
  refine sc_load hC (k := 1) hl4 te_368_2203 te_368_2204 te_368_2206 te_368_2207 te_368_2208 (sc_in hS hi (by decide)) ?_
  refine sc_load hC (k := 2) hl4 te_368_2209 te_368_2210 te_368_2212 te_368_2213 te_368_2214 (sc_in hS hi (by decide)) ?_
  refine sc_load hC (k := 3) hl4 te_368_2215 te_368_2216 te_368_2218 te_368_2219 te_368_2220 (sc_in hS hi (by decide)) ?_
  refine sc_load hC (k := 4) hl4 te_368_2221 te_368_2222 te_368_2224 te_368_2225 te_368_2226 (sc_in hS hi (by decide)) ?_
  refine Vx.go hC te_368_2227 ?_
  obtain ⟨gs8, gs8g⟩ := hL2.obj (A := 143) rfl
  have hcall9 := ref_call (S := S) (n := 24) (μ := 364) (args := [.inr 143, .inl ((S.2 (i + Int32.ofInt 1).toNatClampNeg) : Int32).toInt, .inl ((S.2 (i + Int32.ofInt 2).toNatClampNeg) : Int32).toInt, .inl ((S.2 (i + Int32.ofInt 3).toNatClampNeg) : Int32).toInt, .inl ((S.2 (i + Int32.ofInt 4).toNatClampNeg) : Int32).toInt]) (h := h1) (fun v hv => by simp only [List.mem_cons, List.not_mem_nil, or_false] at hv; rcases hv with rfl | rfl | rfl | rfl | rfl <;> first | trivial | exact wiI _) hL2 (fun mem hr => f_364 hr (fun r m' a b => ⟨a, b⟩))
  simp only [List.map_cons, List.map_nil, wv, Int32.ofInt_toInt] at hcall9
  refine p_call_mk (av := [.ref 143, .int (S.2 (i + Int32.ofInt 1).toNatClampNeg), .int (S.2 (i + Int32.ofInt 2).toNatClampNeg), .int (S.2 (i + Int32.ofInt 3).toNatClampNeg), .int (S.2 (i + Int32.ofInt 4).toNatClampNeg)]) (rest := []) mt_364 rfl (by decide) (show (c + 6) + 0 ≤ 601024 by omega) (show (s + 36) + 0 ≤ 7293033 by omega) (fun _ => ⟨143, gs8, rfl, gs8g⟩) ?_
  refine hC _ _ _ _ _ ?_ hcall9
  rintro _ h5 ⟨hL6, r7, rfl⟩
  show Vx (Ex S 24) S M_368 [] Q1 2230 (px_s1 lv 5 (.int r3)) [.int r7] h5 (c + 6) (s + 36)
  refine Vx.go hC te_368_2230 ?_
  refine ⟨by decide, ?_⟩
  have hl10 := LwS.st (j := 6) (v := .int r7) (by omega) hl4
  show Vx (Ex S 24) S M_368 [] Q1 2232 (px_s1 (px_s1 lv 5 (.int r3)) 6 (.int r7)) [] h5 (c + 6) (s + 36)
  refine Vx.go hC te_368_2232 ?_
  refine ⟨by decide, ?_⟩
  exact Nx _ _ _ _ hl10 hL6 (by omega) (by omega)
theorem lc_45 {S : Nat × (Nat → Int32)} {lv : LV} {h : PH} {c s : Nat} {i : Int32} (hS : S.1 ≤ 3072) (hl : LwS lv i) (hi : 0 ≤ i.toInt ∧ i.toInt + 5 < S.1) (hL : LR h) (hc : c + 8 ≤ 601024) (hs : s + 48 ≤ 7293033) (Nx : ∀ lv' h' c' s', LwS lv' i → LR h' → c' ≤ c + 8 → s' ≤ s + 48 → Vx (Ex S 24) S M_368 [] Q1 2344 lv' [] h' c' s') : Vx (Ex S 24) S M_368 [] Q1 2235 lv [] h c s := by
  have hC := Ex.mono S 24
  refine Vx.go hC te_368_2235 ?_
  refine ⟨_, hl.2.1, ⟨0, Or.inl rfl⟩, ?_⟩
  refine sc_load hC (k := 1) hl te_368_2236 te_368_2237 te_368_2239 te_368_2240 te_368_2241 (sc_in hS hi (by decide)) ?_
  refine Vx.go hC te_368_2242 ?_
  refine ⟨_, hl.2.2.2.1, ⟨173, Or.inl rfl⟩, ?_⟩
  refine Vx.go hC te_368_2243 ?_
  refine Or.inr ⟨by decide, ?_⟩
  refine p_call_mk (av := [.ref 0, .int (S.2 (i + Int32.ofInt 1).toNatClampNeg), .ref 173]) (rest := []) mt_218 rfl (by decide) (show c + 3 ≤ 601024 by omega) (show s + 18 ≤ 7293033 by omega) (fun q => by cases q) ?_
  refine g_218 (n := 6) hL (fun r3 h1 hL2 => ?_)
  show Vx (Ex S 24) S M_368 [] Q1 2246 lv [.int r3] h1 (c + 3) (s + 18)
  refine Vx.go hC te_368_2246 ?_
  refine ⟨by decide, ?_⟩
  have hl4 := LwS.st (j := 5) (v := .int r3) (by omega) hl
  show Vx (Ex S 24) S M_368 [] Q1 2248 (px_s1 lv 5 (.int r3)) [] h1 (c + 3) (s + 18)
  refine Vx.go hC te_368_2248 ?_
  refine ⟨_, hl4.2.2.1, ⟨143, Or.inl rfl⟩, ?_⟩
  refine sc_load hC (k := 1) hl4 te_368_2249 te_368_2250 te_368_2252 te_368_2253 te_368_2254 (sc_in hS hi (by decide)) ?_
  refine Vx.go hC te_368_2255 ?_
  obtain ⟨gs8, gs8g⟩ := hL2.obj (A := 143) rfl
  have hcall9 := ref_call (S := S) (n := 24) (μ := 336) (args := [.inr 143, .inl ((S.2 (i + Int32.ofInt 1).toNatClampNeg) : Int32).toInt]) (h := h1) (fun v hv => by simp only [List.mem_cons, List.not_mem_nil, or_false] at hv; rcases hv with rfl | rfl <;> first | trivial | exact wiI _) hL2 (fun mem hr => f_336 hr (fun r m' a b => ⟨a, b⟩))
  simp only [List.map_cons, List.map_nil, wv, Int32.ofInt_toInt] at hcall9
  refine p_call_mk (av := [.ref 143, .int (S.2 (i + Int32.ofInt 1).toNatClampNeg)]) (rest := []) mt_336 rfl (by decide) (show (c + 3) + 0 ≤ 601024 by omega) (show (s + 18) + 0 ≤ 7293033 by omega) (fun _ => ⟨143, gs8, rfl, gs8g⟩) ?_
  refine hC _ _ _ _ _ ?_ hcall9
  rintro _ h5 ⟨hL6, r7, rfl⟩
  show Vx (Ex S 24) S M_368 [] Q1 2258 (px_s1 lv 5 (.int r3)) [.int r7] h5 (c + 3) (s + 18)
  refine Vx.go hC te_368_2258 ?_
  refine ⟨by decide, ?_⟩
  have hl10 := LwS.st (j := 6) (v := .int r7) (by omega) hl4
  show Vx (Ex S 24) S M_368 [] Q1 2260 (px_s1 (px_s1 lv 5 (.int r3)) 6 (.int r7)) [] h5 (c + 3) (s + 18)
  refine Vx.go hC te_368_2260 ?_
  refine ⟨by decide, ?_⟩
  exact Nx _ _ _ _ hl10 hL6 (by omega) (by omega)
theorem lc_46 {S : Nat × (Nat → Int32)} {lv : LV} {h : PH} {c s : Nat} {i : Int32} (hS : S.1 ≤ 3072) (hl : LwS lv i) (hi : 0 ≤ i.toInt ∧ i.toInt + 5 < S.1) (hL : LR h) (hc : c + 8 ≤ 601024) (hs : s + 48 ≤ 7293033) (Nx : ∀ lv' h' c' s', LwS lv' i → LR h' → c' ≤ c + 8 → s' ≤ s + 48 → Vx (Ex S 24) S M_368 [] Q1 2344 lv' [] h' c' s') : Vx (Ex S 24) S M_368 [] Q1 2263 lv [] h c s := by
  have hC := Ex.mono S 24
  refine Vx.go hC te_368_2263 ?_
  refine ⟨_, hl.2.1, ⟨0, Or.inl rfl⟩, ?_⟩
  refine sc_load hC (k := 1) hl te_368_2264 te_368_2265 te_368_2267 te_368_2268 te_368_2269 (sc_in hS hi (by decide)) ?_
  refine Vx.go hC te_368_2270 ?_
  refine ⟨_, hl.2.2.2.1, ⟨173, Or.inl rfl⟩, ?_⟩
  refine Vx.go hC te_368_2271 ?_
  refine Or.inr ⟨by decide, ?_⟩
  refine p_call_mk (av := [.ref 0, .int (S.2 (i + Int32.ofInt 1).toNatClampNeg), .ref 173]) (rest := []) mt_220 rfl (by decide) (show c + 2 ≤ 601024 by omega) (show s + 12 ≤ 7293033 by omega) (fun q => by cases q) ?_
  refine g_220 (n := 6) hL (fun r3 h1 hL2 => ?_)
  show Vx (Ex S 24) S M_368 [] Q1 2274 lv [.int r3] h1 (c + 2) (s + 12)
  refine Vx.go hC te_368_2274 ?_
  refine ⟨by decide, ?_⟩
  have hl4 := LwS.st (j := 5) (v := .int r3) (by omega) hl
  show Vx (Ex S 24) S M_368 [] Q1 2276 (px_s1 lv 5 (.int r3)) [] h1 (c + 2) (s + 12)
  refine Vx.go hC te_368_2276 ?_
  refine ⟨_, hl4.2.2.1, ⟨143, Or.inl rfl⟩, ?_⟩
  refine sc_load hC (k := 1) hl4 te_368_2277 te_368_2278 te_368_2280 te_368_2281 te_368_2282 (sc_in hS hi (by decide)) ?_
  refine Vx.go hC te_368_2283 ?_
  obtain ⟨gs8, gs8g⟩ := hL2.obj (A := 143) rfl
  have hcall9 := ref_call (S := S) (n := 24) (μ := 357) (args := [.inr 143, .inl ((S.2 (i + Int32.ofInt 1).toNatClampNeg) : Int32).toInt]) (h := h1) (fun v hv => by simp only [List.mem_cons, List.not_mem_nil, or_false] at hv; rcases hv with rfl | rfl <;> first | trivial | exact wiI _) hL2 (fun mem hr => f_357 hr (fun r m' a b => ⟨a, b⟩))
  simp only [List.map_cons, List.map_nil, wv, Int32.ofInt_toInt] at hcall9
  refine p_call_mk (av := [.ref 143, .int (S.2 (i + Int32.ofInt 1).toNatClampNeg)]) (rest := []) mt_357 rfl (by decide) (show (c + 2) + 0 ≤ 601024 by omega) (show (s + 12) + 0 ≤ 7293033 by omega) (fun _ => ⟨143, gs8, rfl, gs8g⟩) ?_
  refine hC _ _ _ _ _ ?_ hcall9
  rintro _ h5 ⟨hL6, r7, rfl⟩
  show Vx (Ex S 24) S M_368 [] Q1 2286 (px_s1 lv 5 (.int r3)) [.int r7] h5 (c + 2) (s + 12)
  refine Vx.go hC te_368_2286 ?_
  refine ⟨by decide, ?_⟩
  have hl10 := LwS.st (j := 6) (v := .int r7) (by omega) hl4
  show Vx (Ex S 24) S M_368 [] Q1 2288 (px_s1 (px_s1 lv 5 (.int r3)) 6 (.int r7)) [] h5 (c + 2) (s + 12)
  refine Vx.go hC te_368_2288 ?_
  refine ⟨by decide, ?_⟩
  exact Nx _ _ _ _ hl10 hL6 (by omega) (by omega)
end
section
/-! laid by wip/hand/lw.py: cases of the law -/
theorem te_368_2291 : (pT M_368).find? (fun e => e.1 == 2291) = some (2291, .aload_n 1, 0, 0) := (sk_120 2291 rfl).trans rfl
theorem te_368_2292 : (pT M_368).find? (fun e => e.1 == 2292) = some (2292, .aload_n 0, 0, 0) := (sk_120 2292 rfl).trans rfl
theorem te_368_2293 : (pT M_368).find? (fun e => e.1 == 2293) = some (2293, .iload 4, 0, 0) := (sk_120 2293 rfl).trans rfl
theorem te_368_2295 : (pT M_368).find? (fun e => e.1 == 2295) = some (2295, .iconst 1, 0, 0) := (sk_120 2295 rfl).trans rfl
theorem te_368_2296 : (pT M_368).find? (fun e => e.1 == 2296) = some (2296, .iadd, 0, 0) := (sk_121 2296 rfl).trans rfl
theorem te_368_2297 : (pT M_368).find? (fun e => e.1 == 2297) = some (2297, .iaload, 0, 0) := (sk_121 2297 rfl).trans rfl
theorem te_368_2298 : (pT M_368).find? (fun e => e.1 == 2298) = some (2298, .aload_n 3, 0, 0) := (sk_121 2298 rfl).trans rfl
theorem te_368_2299 : (pT M_368).find? (fun e => e.1 == 2299) = some (2299, .invokestatic 333, 222, 8) := (sk_121 2299 rfl).trans rfl
theorem te_368_2302 : (pT M_368).find? (fun e => e.1 == 2302) = some (2302, .istore 5, 0, 0) := (sk_121 2302 rfl).trans rfl
theorem te_368_2304 : (pT M_368).find? (fun e => e.1 == 2304) = some (2304, .aload_n 2, 0, 0) := (sk_121 2304 rfl).trans rfl
theorem te_368_2305 : (pT M_368).find? (fun e => e.1 == 2305) = some (2305, .aload_n 0, 0, 0) := (sk_121 2305 rfl).trans rfl
theorem te_368_2306 : (pT M_368).find? (fun e => e.1 == 2306) = some (2306, .iload 4, 0, 0) := (sk_121 2306 rfl).trans rfl
theorem te_368_2308 : (pT M_368).find? (fun e => e.1 == 2308) = some (2308, .iconst 1, 0, 0) := (sk_121 2308 rfl).trans rfl
theorem te_368_2309 : (pT M_368).find? (fun e => e.1 == 2309) = some (2309, .iadd, 0, 0) := (sk_121 2309 rfl).trans rfl
theorem te_368_2310 : (pT M_368).find? (fun e => e.1 == 2310) = some (2310, .iaload, 0, 0) := (sk_121 2310 rfl).trans rfl
theorem te_368_2311 : (pT M_368).find? (fun e => e.1 == 2311) = some (2311, .invokevirtual 335, 358, 0) := (sk_121 2311 rfl).trans rfl
theorem te_368_2314 : (pT M_368).find? (fun e => e.1 == 2314) = some (2314, .istore 6, 0, 0) := (sk_122 2314 rfl).trans rfl
theorem te_368_2316 : (pT M_368).find? (fun e => e.1 == 2316) = some (2316, .goto 28, 0, 0) := (sk_122 2316 rfl).trans rfl
theorem te_368_2319 : (pT M_368).find? (fun e => e.1 == 2319) = some (2319, .aload_n 1, 0, 0) := (sk_122 2319 rfl).trans rfl
theorem te_368_2320 : (pT M_368).find? (fun e => e.1 == 2320) = some (2320, .aload_n 0, 0, 0) := (sk_122 2320 rfl).trans rfl
theorem te_368_2321 : (pT M_368).find? (fun e => e.1 == 2321) = some (2321, .iload 4, 0, 0) := (sk_122 2321 rfl).trans rfl
theorem te_368_2323 : (pT M_368).find? (fun e => e.1 == 2323) = some (2323, .iconst 1, 0, 0) := (sk_122 2323 rfl).trans rfl
theorem te_368_2324 : (pT M_368).find? (fun e => e.1 == 2324) = some (2324, .iadd, 0, 0) := (sk_122 2324 rfl).trans rfl
theorem te_368_2325 : (pT M_368).find? (fun e => e.1 == 2325) = some (2325, .iaload, 0, 0) := (sk_122 2325 rfl).trans rfl
theorem te_368_2326 : (pT M_368).find? (fun e => e.1 == 2326) = some (2326, .invokevirtual 336, 31, 0) := (sk_122 2326 rfl).trans rfl
theorem te_368_2329 : (pT M_368).find? (fun e => e.1 == 2329) = some (2329, .pop, 0, 0) := (sk_122 2329 rfl).trans rfl
theorem te_368_2330 : (pT M_368).find? (fun e => e.1 == 2330) = some (2330, .aload_n 2, 0, 0) := (sk_122 2330 rfl).trans rfl
theorem te_368_2331 : (pT M_368).find? (fun e => e.1 == 2331) = some (2331, .aload_n 0, 0, 0) := (sk_122 2331 rfl).trans rfl
theorem te_368_2332 : (pT M_368).find? (fun e => e.1 == 2332) = some (2332, .iload 4, 0, 0) := (sk_123 2332 rfl).trans rfl
theorem te_368_2334 : (pT M_368).find? (fun e => e.1 == 2334) = some (2334, .iconst 1, 0, 0) := (sk_123 2334 rfl).trans rfl
theorem te_368_2335 : (pT M_368).find? (fun e => e.1 == 2335) = some (2335, .iadd, 0, 0) := (sk_123 2335 rfl).trans rfl
theorem te_368_2336 : (pT M_368).find? (fun e => e.1 == 2336) = some (2336, .iaload, 0, 0) := (sk_123 2336 rfl).trans rfl
theorem te_368_2337 : (pT M_368).find? (fun e => e.1 == 2337) = some (2337, .invokevirtual 339, 366, 0) := (sk_123 2337 rfl).trans rfl
theorem te_368_2340 : (pT M_368).find? (fun e => e.1 == 2340) = some (2340, .pop, 0, 0) := (sk_123 2340 rfl).trans rfl
theorem te_368_2341 : (pT M_368).find? (fun e => e.1 == 2341) = some (2341, .goto 3, 0, 0) := (sk_123 2341 rfl).trans rfl
theorem lc_47 {S : Nat × (Nat → Int32)} {lv : LV} {h : PH} {c s : Nat} {i : Int32} (hS : S.1 ≤ 3072) (hl : LwS lv i) (hi : 0 ≤ i.toInt ∧ i.toInt + 5 < S.1) (hL : LR h) (hc : c + 8 ≤ 601024) (hs : s + 48 ≤ 7293033) (Nx : ∀ lv' h' c' s', LwS lv' i → LR h' → c' ≤ c + 8 → s' ≤ s + 48 → Vx (Ex S 24) S M_368 [] Q1 2344 lv' [] h' c' s') : Vx (Ex S 24) S M_368 [] Q1 2291 lv [] h c s := by
  have hC := Ex.mono S 24
  refine Vx.go hC te_368_2291 ?_
  refine ⟨_, hl.2.1, ⟨0, Or.inl rfl⟩, ?_⟩
  refine sc_load hC (k := 1) hl te_368_2292 te_368_2293 te_368_2295 te_368_2296 te_368_2297 (sc_in hS hi (by decide)) ?_
  refine Vx.go hC te_368_2298 ?_
  refine ⟨_, hl.2.2.2.1, ⟨173, Or.inl rfl⟩, ?_⟩
  refine Vx.go hC te_368_2299 ?_
  refine Or.inr ⟨by decide, ?_⟩
  refine p_call_mk (av := [.ref 0, .int (S.2 (i + Int32.ofInt 1).toNatClampNeg), .ref 173]) (rest := []) mt_222 rfl (by decide) (show c + 2 ≤ 601024 by omega) (show s + 12 ≤ 7293033 by omega) (fun q => by cases q) ?_
  refine g_222 (n := 6) hL (fun r3 h1 hL2 => ?_)
  show Vx (Ex S 24) S M_368 [] Q1 2302 lv [.int r3] h1 (c + 2) (s + 12)
  refine Vx.go hC te_368_2302 ?_
  refine ⟨by decide, ?_⟩
  have hl4 := LwS.st (j := 5) (v := .int r3) (by omega) hl
  show Vx (Ex S 24) S M_368 [] Q1 2304 (px_s1 lv 5 (.int r3)) [] h1 (c + 2) (s + 12)
  refine Vx.go hC te_368_2304 ?_
  refine ⟨_, hl4.2.2.1, ⟨143, Or.inl rfl⟩, ?_⟩
  refine sc_load hC (k := 1) hl4 te_368_2305 te_368_2306 te_368_2308 te_368_2309 te_368_2310 (sc_in hS hi (by decide)) ?_
  refine Vx.go hC te_368_2311 ?_
  obtain ⟨gs8, gs8g⟩ := hL2.obj (A := 143) rfl
  have hcall9 := ref_call (S := S) (n := 24) (μ := 358) (args := [.inr 143, .inl ((S.2 (i + Int32.ofInt 1).toNatClampNeg) : Int32).toInt]) (h := h1) (fun v hv => by simp only [List.mem_cons, List.not_mem_nil, or_false] at hv; rcases hv with rfl | rfl <;> first | trivial | exact wiI _) hL2 (fun mem hr => f_358 hr (fun r m' a b => ⟨a, b⟩))
  simp only [List.map_cons, List.map_nil, wv, Int32.ofInt_toInt] at hcall9
  refine p_call_mk (av := [.ref 143, .int (S.2 (i + Int32.ofInt 1).toNatClampNeg)]) (rest := []) mt_358 rfl (by decide) (show (c + 2) + 0 ≤ 601024 by omega) (show (s + 12) + 0 ≤ 7293033 by omega) (fun _ => ⟨143, gs8, rfl, gs8g⟩) ?_
  refine hC _ _ _ _ _ ?_ hcall9
  rintro _ h5 ⟨hL6, r7, rfl⟩
  show Vx (Ex S 24) S M_368 [] Q1 2314 (px_s1 lv 5 (.int r3)) [.int r7] h5 (c + 2) (s + 12)
  refine Vx.go hC te_368_2314 ?_
  refine ⟨by decide, ?_⟩
  have hl10 := LwS.st (j := 6) (v := .int r7) (by omega) hl4
  show Vx (Ex S 24) S M_368 [] Q1 2316 (px_s1 (px_s1 lv 5 (.int r3)) 6 (.int r7)) [] h5 (c + 2) (s + 12)
  refine Vx.go hC te_368_2316 ?_
  refine ⟨by decide, ?_⟩
  exact Nx _ _ _ _ hl10 hL6 (by omega) (by omega)
theorem lc_48 {S : Nat × (Nat → Int32)} {lv : LV} {h : PH} {c s : Nat} {i : Int32} (hS : S.1 ≤ 3072) (hl : LwS lv i) (hi : 0 ≤ i.toInt ∧ i.toInt + 5 < S.1) (hL : LR h) (hc : c + 8 ≤ 601024) (hs : s + 48 ≤ 7293033) (Nx : ∀ lv' h' c' s', LwS lv' i → LR h' → c' ≤ c + 8 → s' ≤ s + 48 → Vx (Ex S 24) S M_368 [] Q1 2344 lv' [] h' c' s') : Vx (Ex S 24) S M_368 [] Q1 2319 lv [] h c s := by
  have hC := Ex.mono S 24
  refine Vx.go hC te_368_2319 ?_
  refine ⟨_, hl.2.1, ⟨0, Or.inl rfl⟩, ?_⟩
  refine sc_load hC (k := 1) hl te_368_2320 te_368_2321 te_368_2323 te_368_2324 te_368_2325 (sc_in hS hi (by decide)) ?_
  refine Vx.go hC te_368_2326 ?_
  obtain ⟨gs4, gs4g⟩ := hL.obj (A := 0) rfl
  have hcall5 := cls_call (S := S) (n := 24) (μ := 31) (args := [.inr 0, .inl ((S.2 (i + Int32.ofInt 1).toNatClampNeg) : Int32).toInt]) (h := h) (es := fun _ => False) (fun v hv => by simp only [List.mem_cons, List.not_mem_nil, or_false] at hv; rcases hv with rfl | rfl <;> first | trivial | exact wiI _) hL (fun mem hr => f_31 hr (fun r m' a b => ⟨a, b⟩))
  simp only [List.map_cons, List.map_nil, wv, Int32.ofInt_toInt] at hcall5
  refine p_call_mk (av := [.ref 0, .int (S.2 (i + Int32.ofInt 1).toNatClampNeg)]) (rest := []) mt_31 rfl (by decide) (show c + 0 ≤ 601024 by omega) (show s + 0 ≤ 7293033 by omega) (fun _ => ⟨0, gs4, rfl, gs4g⟩) ?_
  refine hC _ _ _ _ _ ?_ hcall5
  rintro _ h1 ⟨hL2, hor⟩
  obtain ⟨r3, rfl⟩ := hor.resolve_right (fun ⟨_, q, _⟩ => q)
  show Vx (Ex S 24) S M_368 [] Q1 2329 lv [.int r3] h1 c s
  refine Vx.go hC te_368_2329 ?_
  refine ⟨_, _, rfl, rfl, ?_⟩
  show Vx (Ex S 24) S M_368 [] Q1 2330 lv [] h1 c s
  refine Vx.go hC te_368_2330 ?_
  refine ⟨_, hl.2.2.1, ⟨143, Or.inl rfl⟩, ?_⟩
  refine sc_load hC (k := 1) hl te_368_2331 te_368_2332 te_368_2334 te_368_2335 te_368_2336 (sc_in hS hi (by decide)) ?_
  refine Vx.go hC te_368_2337 ?_
  obtain ⟨gs9, gs9g⟩ := hL2.obj (A := 143) rfl
  have hcall10 := ref_call (S := S) (n := 24) (μ := 366) (args := [.inr 143, .inl ((S.2 (i + Int32.ofInt 1).toNatClampNeg) : Int32).toInt]) (h := h1) (fun v hv => by simp only [List.mem_cons, List.not_mem_nil, or_false] at hv; rcases hv with rfl | rfl <;> first | trivial | exact wiI _) hL2 (fun mem hr => f_366 hr (fun r m' a b => ⟨a, b⟩))
  simp only [List.map_cons, List.map_nil, wv, Int32.ofInt_toInt] at hcall10
  refine p_call_mk (av := [.ref 143, .int (S.2 (i + Int32.ofInt 1).toNatClampNeg)]) (rest := []) mt_366 rfl (by decide) (show c + 0 ≤ 601024 by omega) (show s + 0 ≤ 7293033 by omega) (fun _ => ⟨143, gs9, rfl, gs9g⟩) ?_
  refine hC _ _ _ _ _ ?_ hcall10
  rintro _ h6 ⟨hL7, r8, rfl⟩
  show Vx (Ex S 24) S M_368 [] Q1 2340 lv [.int r8] h6 c s
  refine Vx.go hC te_368_2340 ?_
  refine ⟨_, _, rfl, rfl, ?_⟩
  show Vx (Ex S 24) S M_368 [] Q1 2341 lv [] h6 c s
  refine Vx.go hC te_368_2341 ?_
  refine ⟨by decide, ?_⟩
  exact Nx _ _ _ _ hl hL7 (by omega) (by omega)
end
section
/-! reckon on both sides -/
def Hf0 (p0 p1 p2 p3 p4 t y : Int) (m' : MM) : Prop := ClS m' ∧ RefOK m' ∧ ∃ m, RelB m ∧ ((t = 0 ∧ ((0 ≤ p0 ∧ p0 < 4) ∧ srcX p1 p2 ∧ srcX p3 p4) ∧ m 1 0 < 8 ∧ y = m 1 0 ∧ m' = upm (putM m (m 1 0).toNat p0 p1 p2 p3 p4) 0 11 1) ∨ (t = 1 ∧ ¬ ((0 ≤ p0 ∧ p0 < 4) ∧ srcX p1 p2 ∧ srcX p3 p4) ∧ m' = m) ∨ (t = 2 ∧ ((0 ≤ p0 ∧ p0 < 4) ∧ srcX p1 p2 ∧ srcX p3 p4) ∧ ¬ m 1 0 < 8 ∧ m' = m))
theorem cl0 {S : Nat × (Nat → Int32)} {n : Nat} {m : MM} {p0 p1 p2 p3 p4 : Int} (hc : ClS m) (hr : RefOK m) (hb : RelB m) : CQI (Ex S (n + 3)) 44 [.inr 0, .inl p0, .inl p1, .inl p2, .inl p3, .inl p4] m (fun y m' => Hf0 p0 p1 p2 p3 p4 0 y m') (fun e m' => (e = 0 ∧ Hf0 p0 p1 p2 p3 p4 1 0 m') ∨ (e = 1 ∧ Hf0 p0 p1 p2 p3 p4 2 0 m')) :=
  f_44x hc (fun q h8 r m' er hc' em => ⟨hc', hr.fr (fun A i a b => by rw [em]; unfold putM; repeat rw [upm_ne (by omega)]), m, hb, Or.inl ⟨rfl, q, h8, er, em⟩⟩) (fun q => Or.inl ⟨rfl, hc, hr, m, hb, Or.inr (Or.inl ⟨rfl, q, rfl⟩)⟩) (fun q h8 => Or.inr ⟨rfl, hc, hr, m, hb, Or.inr (Or.inr ⟨rfl, q, h8, rfl⟩)⟩)
theorem rf0 {S : Nat × (Nat → Int32)} {n : Nat} {m' : MM} {p0 p1 p2 p3 p4 t y : Int} (H : Hf0 p0 p1 p2 p3 p4 t y m') : CQI (Ex S (n + 3)) 226 [.inr 143, .inl p0, .inl p1, .inl p2, .inl p3, .inl p4] m' (fun r m2 => ClS m2 ∧ RefOK m2 ∧ RelB m2 ∧ m2 143 0 = t ∧ (t = 0 → r = y)) (fun _ _ => False) := by
  obtain ⟨hc, hr, m, hb, H⟩ := H
  have h8 : 0 ≤ m' 143 1 ∧ m' 143 1 ≤ 8 := hr.ops.1
  have hz := hb.1
  have e1 : m' 143 1 = m 143 1 := by
    rcases H with ⟨-, -, -, -, e⟩ | ⟨-, -, e⟩ | ⟨-, -, -, e⟩ <;> rw [e]
    unfold putM
    repeat rw [upm_ne (by omega)]
  refine f_226x h8 (fun q l r m2 er em => ?_) (fun q => ?_) (fun q l => ?_)
  · rcases H with ⟨rfl, q', l', ey, e⟩ | ⟨rfl, q', e⟩ | ⟨rfl, q', l', e⟩
    · have en : (m' 143 1).toNat = (m 1 0).toNat := by rw [e1, hz]
      refine ⟨hc.ref (fun A i w => ?_), ?_, ?_, ?_, fun _ => by rw [er, ey, e1, hz]⟩
      · unfold pRf at w
        rw [em]; unfold addM
        repeat rw [upm_ne (by omega)]
      · rw [em]
        have es : upm m' 143 0 0 143 1 = m' 143 1 := upm_ne (by omega)
        refine RefOK.add (hr.th' (by omega)) (by rw [es]; omega) (by rw [es]; exact l) (by omega) (fun _ => ⟨q.2.1.ok, q.2.2.ok⟩) (fun z => by omega) (fun z => by omega) ?_
        have := q.2.2
        unfold srcX at this
        omega
      · rw [em, en]
        refine RelB.add hb (by omega) (fun A i a b => ?_)
        rw [upm_ne (by omega), e, upm_ne (by omega)]
      · rw [em]; unfold addM
        repeat rw [upm_ne (by omega)]
        exact upm_eq
    · exact absurd q q'
    · omega
  · rcases H with ⟨rfl, q', l', ey, e⟩ | ⟨rfl, q', e⟩ | ⟨rfl, q', l', e⟩
    · exact absurd q' q
    · subst e
      exact ⟨hc.ref (fun A i w => upm_ne (by unfold pRf at w; omega)), hr.th' (by omega), hb.one (by omega), upm_eq, fun z => by omega⟩
    · exact absurd q' q
  · rcases H with ⟨rfl, q', l', ey, e⟩ | ⟨rfl, q', e⟩ | ⟨rfl, q', l', e⟩
    · omega
    · exact absurd q q'
    · subst e
      exact ⟨hc.ref (fun A i w => upm_ne (by unfold pRf at w; omega)), hr.th' (by omega), hb.one (by omega), upm_eq, fun z => by omega⟩
end
section
/-! load, store, drop, first, kind, unit on both sides (wip/hand/pair.py) -/
def Hf1 (p0 p1 t y : Int) (m' : MM) : Prop := ClS m' ∧ RefOK m' ∧ ∃ m, RelB m ∧ ((t = 0 ∧ (rowX p0 p1) ∧ m 1 0 < 8 ∧ y = m 1 0 ∧ m' = upm (putM m (m 1 0).toNat 4 p0 p1 0 0) 0 11 1) ∨ (t = 1 ∧ ¬ (rowX p0 p1) ∧ m' = m) ∨ (t = 2 ∧ (rowX p0 p1) ∧ ¬ m 1 0 < 8 ∧ m' = m))
theorem cl1 {S : Nat × (Nat → Int32)} {n : Nat} {m : MM} {p0 p1 : Int} (hc : ClS m) (hr : RefOK m) (hb : RelB m) : CQI (Ex S (n + 3)) 49 [.inr 0, .inl p0, .inl p1] m (fun y m' => Hf1 p0 p1 0 y m') (fun e m' => (e = 0 ∧ Hf1 p0 p1 1 0 m') ∨ (e = 1 ∧ Hf1 p0 p1 2 0 m')) :=
  f_49x hc (fun q h8 r m' er hc' em => ⟨hc', hr.fr (fun A i a b => by rw [em]; unfold putM; repeat rw [upm_ne (by omega)]), m, hb, Or.inl ⟨rfl, q, h8, er, em⟩⟩) (fun q => Or.inl ⟨rfl, hc, hr, m, hb, Or.inr (Or.inl ⟨rfl, q, rfl⟩)⟩) (fun q h8 => Or.inr ⟨rfl, hc, hr, m, hb, Or.inr (Or.inr ⟨rfl, q, h8, rfl⟩)⟩)
theorem rf1 {S : Nat × (Nat → Int32)} {n : Nat} {m' : MM} {p0 p1 t y : Int} (H : Hf1 p0 p1 t y m') : CQI (Ex S (n + 3)) 230 [.inr 143, .inl p0, .inl p1] m' (fun r m2 => ClS m2 ∧ RefOK m2 ∧ RelB m2 ∧ m2 143 0 = t ∧ (t = 0 → r = y)) (fun _ _ => False) := by
  obtain ⟨hc, hr, m, hb, H⟩ := H
  have h8 : 0 ≤ m' 143 1 ∧ m' 143 1 ≤ 8 := hr.ops.1
  have hz := hb.1
  have e1 : m' 143 1 = m 143 1 := by
    rcases H with ⟨-, -, -, -, e⟩ | ⟨-, -, e⟩ | ⟨-, -, -, e⟩ <;> rw [e]
    unfold putM
    repeat rw [upm_ne (by omega)]
  refine f_230x h8 (fun q l r m2 er em => ?_) (fun q => ?_) (fun q l => ?_)
  · rcases H with ⟨rfl, q', l', ey, e⟩ | ⟨rfl, q', e⟩ | ⟨rfl, q', l', e⟩
    · have en : (m' 143 1).toNat = (m 1 0).toNat := by rw [e1, hz]
      refine ⟨hc.ref (fun A i w => ?_), ?_, ?_, ?_, fun _ => by rw [er, ey, e1, hz]⟩
      · unfold pRf at w
        rw [em]; unfold addM
        repeat rw [upm_ne (by omega)]
      · rw [em]
        have es : upm m' 143 0 0 143 1 = m' 143 1 := upm_ne (by omega)
        refine RefOK.add (hr.th' (by omega)) (by rw [es]; omega) (by rw [es]; exact l) (by omega) (fun z => by omega) (fun _ => q.w) (fun z => by omega) ?_
        omega
      · rw [em, en]
        refine RelB.add hb (by omega) (fun A i a b => ?_)
        rw [upm_ne (by omega), e, upm_ne (by omega)]
      · rw [em]; unfold addM
        repeat rw [upm_ne (by omega)]
        exact upm_eq
    · exact absurd q q'
    · omega
  · rcases H with ⟨rfl, q', l', ey, e⟩ | ⟨rfl, q', e⟩ | ⟨rfl, q', l', e⟩
    · exact absurd q' q
    · subst e
      exact ⟨hc.ref (fun A i w => upm_ne (by unfold pRf at w; omega)), hr.th' (by omega), hb.one (by omega), upm_eq, fun z => by omega⟩
    · exact absurd q' q
  · rcases H with ⟨rfl, q', l', ey, e⟩ | ⟨rfl, q', e⟩ | ⟨rfl, q', l', e⟩
    · omega
    · exact absurd q q'
    · subst e
      exact ⟨hc.ref (fun A i w => upm_ne (by unfold pRf at w; omega)), hr.th' (by omega), hb.one (by omega), upm_eq, fun z => by omega⟩
def Hf2 (p0 p1 p2 p3 t y : Int) (m' : MM) : Prop := ClS m' ∧ RefOK m' ∧ ∃ m, RelB m ∧ ((t = 0 ∧ (srcX p0 p1 ∧ rowX p2 p3) ∧ m 1 0 < 8 ∧ y = m 1 0 ∧ m' = upm (putM m (m 1 0).toNat 5 p0 p1 p2 p3) 0 11 1) ∨ (t = 1 ∧ ¬ (srcX p0 p1 ∧ rowX p2 p3) ∧ m' = m) ∨ (t = 2 ∧ (srcX p0 p1 ∧ rowX p2 p3) ∧ ¬ m 1 0 < 8 ∧ m' = m))
theorem cl2 {S : Nat × (Nat → Int32)} {n : Nat} {m : MM} {p0 p1 p2 p3 : Int} (hc : ClS m) (hr : RefOK m) (hb : RelB m) : CQI (Ex S (n + 3)) 52 [.inr 0, .inl p0, .inl p1, .inl p2, .inl p3] m (fun y m' => Hf2 p0 p1 p2 p3 0 y m') (fun e m' => (e = 0 ∧ Hf2 p0 p1 p2 p3 1 0 m') ∨ (e = 1 ∧ Hf2 p0 p1 p2 p3 2 0 m')) :=
  f_52x hc (fun q h8 r m' er hc' em => ⟨hc', hr.fr (fun A i a b => by rw [em]; unfold putM; repeat rw [upm_ne (by omega)]), m, hb, Or.inl ⟨rfl, q, h8, er, em⟩⟩) (fun q => Or.inl ⟨rfl, hc, hr, m, hb, Or.inr (Or.inl ⟨rfl, q, rfl⟩)⟩) (fun q h8 => Or.inr ⟨rfl, hc, hr, m, hb, Or.inr (Or.inr ⟨rfl, q, h8, rfl⟩)⟩)
theorem rf2 {S : Nat × (Nat → Int32)} {n : Nat} {m' : MM} {p0 p1 p2 p3 t y : Int} (H : Hf2 p0 p1 p2 p3 t y m') : CQI (Ex S (n + 3)) 232 [.inr 143, .inl p0, .inl p1, .inl p2, .inl p3] m' (fun r m2 => ClS m2 ∧ RefOK m2 ∧ RelB m2 ∧ m2 143 0 = t ∧ (t = 0 → r = y)) (fun _ _ => False) := by
  obtain ⟨hc, hr, m, hb, H⟩ := H
  have h8 : 0 ≤ m' 143 1 ∧ m' 143 1 ≤ 8 := hr.ops.1
  have hz := hb.1
  have e1 : m' 143 1 = m 143 1 := by
    rcases H with ⟨-, -, -, -, e⟩ | ⟨-, -, e⟩ | ⟨-, -, -, e⟩ <;> rw [e]
    unfold putM
    repeat rw [upm_ne (by omega)]
  refine f_232x h8 (fun q l r m2 er em => ?_) (fun q => ?_) (fun q l => ?_)
  · rcases H with ⟨rfl, q', l', ey, e⟩ | ⟨rfl, q', e⟩ | ⟨rfl, q', l', e⟩
    · have en : (m' 143 1).toNat = (m 1 0).toNat := by rw [e1, hz]
      refine ⟨hc.ref (fun A i w => ?_), ?_, ?_, ?_, fun _ => by rw [er, ey, e1, hz]⟩
      · unfold pRf at w
        rw [em]; unfold addM
        repeat rw [upm_ne (by omega)]
      · rw [em]
        have es : upm m' 143 0 0 143 1 = m' 143 1 := upm_ne (by omega)
        refine RefOK.add (hr.th' (by omega)) (by rw [es]; omega) (by rw [es]; exact l) (by omega) (fun z => by omega) (fun z => by omega) (fun _ => ⟨q.1.ok, q.2.w⟩) ?_
        have := q.2.w; omega
      · rw [em, en]
        refine RelB.add hb (by omega) (fun A i a b => ?_)
        rw [upm_ne (by omega), e, upm_ne (by omega)]
      · rw [em]; unfold addM
        repeat rw [upm_ne (by omega)]
        exact upm_eq
    · exact absurd q q'
    · omega
  · rcases H with ⟨rfl, q', l', ey, e⟩ | ⟨rfl, q', e⟩ | ⟨rfl, q', l', e⟩
    · exact absurd q' q
    · subst e
      exact ⟨hc.ref (fun A i w => upm_ne (by unfold pRf at w; omega)), hr.th' (by omega), hb.one (by omega), upm_eq, fun z => by omega⟩
    · exact absurd q' q
  · rcases H with ⟨rfl, q', l', ey, e⟩ | ⟨rfl, q', e⟩ | ⟨rfl, q', l', e⟩
    · omega
    · exact absurd q q'
    · subst e
      exact ⟨hc.ref (fun A i w => upm_ne (by unfold pRf at w; omega)), hr.th' (by omega), hb.one (by omega), upm_eq, fun z => by omega⟩
def Hf3 (t y : Int) (m' : MM) : Prop := ClS m' ∧ RefOK m' ∧ ∃ m, RelB m ∧ ((t = 0 ∧ 0 < m 1 0 ∧ y = m 1 0 - 1 ∧ m' = upm (upm m 1 0 (m 1 0 - 1)) 0 11 1) ∨ (t = 1 ∧ ¬ 0 < m 1 0 ∧ m' = m))
theorem cl3 {S : Nat × (Nat → Int32)} {n : Nat} {m : MM} (hc : ClS m) (hr : RefOK m) (hb : RelB m) : CQI (Ex S (n + 3)) 54 [.inr 0] m (fun y m' => Hf3 0 y m') (fun e m' => (e = 1 ∧ Hf3 1 0 m')) :=
  f_54x hc (fun q r m' er hc' em => ⟨hc', hr.fr (fun A i a b => by rw [em]; repeat rw [upm_ne (by omega)]), m, hb, Or.inl ⟨rfl, q, er, em⟩⟩) (fun q => ⟨rfl, hc, hr, m, hb, Or.inr ⟨rfl, q, rfl⟩⟩)
theorem rf3 {S : Nat × (Nat → Int32)} {n : Nat} {m' : MM} {t y : Int} (H : Hf3 t y m') : CQI (Ex S (n + 3)) 233 [.inr 143] m' (fun r m2 => ClS m2 ∧ RefOK m2 ∧ RelB m2 ∧ m2 143 0 = t ∧ (t = 0 → r = y)) (fun _ _ => False) := by
  obtain ⟨hc, hr, m, hb, H⟩ := H
  have h8 : 0 ≤ m' 143 1 ∧ m' 143 1 ≤ 8 := hr.ops.1
  have hz := hb.1
  have e1 : m' 143 1 = m 143 1 := by
    rcases H with ⟨-, -, -, e⟩ | ⟨-, -, e⟩ <;> rw [e]
    repeat rw [upm_ne (by omega)]
  refine f_233x h8 (fun q r m2 er em => ?_) (fun q => ?_)
  · rcases H with ⟨rfl, q', ey, e⟩ | ⟨rfl, q', e⟩
    · refine ⟨hc.ref (fun A i w => ?_), ?_, ?_, ?_, fun _ => by rw [er, ey, e1, hz]⟩
      · unfold pRf at w
        rw [em]
        repeat rw [upm_ne (by omega)]
      · rw [em]
        exact RefOK.up (hr.th' (by omega)) (Or.inl ⟨rfl, rfl, by omega, by omega⟩)
      · rw [em, e1]
        refine RelB.size (z := m 1 0 - 1) hb ?_ ?_ (fun A i w => ?_)
        · rw [upm_ne (by omega), upm_ne (by omega), e, upm_ne (by omega), upm_eq]
        · rw [upm_eq, hz]
        · rw [upm_ne (by omega), upm_ne (by omega), e, upm_ne (by omega), upm_ne (by omega)]
      · rw [em, upm_ne (by omega), upm_eq]
    · omega
  · rcases H with ⟨rfl, q', ey, e⟩ | ⟨rfl, q', e⟩
    · omega
    · subst e
      exact ⟨hc.ref (fun A i w => upm_ne (by unfold pRf at w; omega)), hr.th' (by omega), hb.one (by omega), upm_eq, fun z => by omega⟩
def Hf4 (p0 p1 t y : Int) (m' : MM) : Prop := ClS m' ∧ RefOK m' ∧ ∃ m, RelB m ∧ ((t = 0 ∧ (0 ≤ p0 ∧ p0 < m 1 0) ∧ (-9999 ≤ p1 ∧ p1 ≤ 9999) ∧ y = m 4 p0.toNat ∧ m' = upm m 4 p0.toNat p1) ∨ (t = 1 ∧ ¬ (0 ≤ p0 ∧ p0 < m 1 0) ∧ m' = m) ∨ (t = 2 ∧ (0 ≤ p0 ∧ p0 < m 1 0) ∧ ¬ (-9999 ≤ p1 ∧ p1 ≤ 9999) ∧ m' = m))
theorem cl4 {S : Nat × (Nat → Int32)} {n : Nat} {m : MM} {p0 p1 : Int} (hc : ClS m) (hr : RefOK m) (hb : RelB m) : CQI (Ex S (n + 3)) 56 [.inr 0, .inl p0, .inl p1] m (fun y m' => Hf4 p0 p1 0 y m') (fun e m' => (e = 2 ∧ Hf4 p0 p1 1 0 m') ∨ (e = 0 ∧ Hf4 p0 p1 2 0 m')) :=
  f_56x (n := n + 1) hc (fun q l r m' er hc' em => ⟨hc', hr.fr (fun A i a b => by rw [em]; repeat rw [upm_ne (by omega)]), m, hb, Or.inl ⟨rfl, q, l, er, em⟩⟩) (fun q => Or.inl ⟨rfl, hc, hr, m, hb, Or.inr (Or.inl ⟨rfl, q, rfl⟩)⟩) (fun q l => Or.inr ⟨rfl, hc, hr, m, hb, Or.inr (Or.inr ⟨rfl, q, l, rfl⟩)⟩)
theorem rf4 {S : Nat × (Nat → Int32)} {n : Nat} {m' : MM} {p0 p1 t y : Int} (H : Hf4 p0 p1 t y m') : CQI (Ex S (n + 4)) 234 [.inr 143, .inl p0, .inl p1] m' (fun r m2 => ClS m2 ∧ RefOK m2 ∧ RelB m2 ∧ m2 143 0 = t ∧ (t = 0 → r = y)) (fun _ _ => False) := by
  obtain ⟨hc, hr, m, hb, H⟩ := H
  have h8 : 0 ≤ m' 143 1 ∧ m' 143 1 ≤ 8 := hr.ops.1
  have hz := hb.1
  have e1 : m' 143 1 = m 143 1 := by
    rcases H with ⟨-, -, -, -, e⟩ | ⟨-, -, e⟩ | ⟨-, -, -, e⟩ <;> rw [e]
    repeat rw [upm_ne (by omega)]
  refine f_234x h8 (fun q l r m2 er em => ?_) (fun q => ?_) (fun q l => ?_)
  · rcases H with ⟨rfl, q', l', ey, e⟩ | ⟨rfl, q', e⟩ | ⟨rfl, q', l', e⟩
    · have er2 : m' 149 p0.toNat = m 149 p0.toNat := by
        rw [e]
        repeat rw [upm_ne (by omega)]
      have er3 : m 149 p0.toNat = m 4 p0.toNat := (hb.2.1 p0.toNat (by omega)).2.2.2.2.2.symm
      refine ⟨hc.ref (fun A i w => ?_), ?_, ?_, ?_, fun _ => by rw [er, ey, er2, er3]⟩
      · unfold pRf at w
        rw [em]
        repeat rw [upm_ne (by omega)]
      · rw [em]
        exact RefOK.up (hr.th' (by omega)) (by omega)
      · rw [em]
        refine RelB.row (A := 4) (B := 149) hb (by omega) (fun C j a b => ?_)
        rw [upm_ne (by omega), e]
      · rw [em, upm_ne (by omega), upm_eq]
    · omega
    · omega
  · rcases H with ⟨rfl, q', l', ey, e⟩ | ⟨rfl, q', e⟩ | ⟨rfl, q', l', e⟩
    · omega
    · subst e
      exact ⟨hc.ref (fun A i w => upm_ne (by unfold pRf at w; omega)), hr.th' (by omega), hb.one (by omega), upm_eq, fun z => by omega⟩
    · omega
  · rcases H with ⟨rfl, q', l', ey, e⟩ | ⟨rfl, q', e⟩ | ⟨rfl, q', l', e⟩
    · omega
    · omega
    · subst e
      exact ⟨hc.ref (fun A i w => upm_ne (by unfold pRf at w; omega)), hr.th' (by omega), hb.one (by omega), upm_eq, fun z => by omega⟩
def Hf6 (p0 p1 t y : Int) (m' : MM) : Prop := ClS m' ∧ RefOK m' ∧ ∃ m, RelB m ∧ ((t = 0 ∧ (0 ≤ p0 ∧ p0 < 3) ∧ (1 ≤ p1 ∧ p1 ≤ 3) ∧ y = m 8 p0.toNat ∧ m' = upm (upm m 8 p0.toNat p1) 0 11 1) ∨ (t = 1 ∧ ¬ (0 ≤ p0 ∧ p0 < 3) ∧ m' = m) ∨ (t = 2 ∧ (0 ≤ p0 ∧ p0 < 3) ∧ ¬ (1 ≤ p1 ∧ p1 ≤ 3) ∧ m' = m))
theorem cl6 {S : Nat × (Nat → Int32)} {n : Nat} {m : MM} {p0 p1 : Int} (hc : ClS m) (hr : RefOK m) (hb : RelB m) : CQI (Ex S (n + 3)) 62 [.inr 0, .inl p0, .inl p1] m (fun y m' => Hf6 p0 p1 0 y m') (fun e m' => (e = 2 ∧ Hf6 p0 p1 1 0 m') ∨ (e = 0 ∧ Hf6 p0 p1 2 0 m')) :=
  f_62x (n := n + 1) hc (fun q l r m' er hc' em => ⟨hc', hr.fr (fun A i a b => by rw [em]; repeat rw [upm_ne (by omega)]), m, hb, Or.inl ⟨rfl, q, l, er, em⟩⟩) (fun q => Or.inl ⟨rfl, hc, hr, m, hb, Or.inr (Or.inl ⟨rfl, q, rfl⟩)⟩) (fun q l => Or.inr ⟨rfl, hc, hr, m, hb, Or.inr (Or.inr ⟨rfl, q, l, rfl⟩)⟩)
theorem rf6 {S : Nat × (Nat → Int32)} {n : Nat} {m' : MM} {p0 p1 t y : Int} (H : Hf6 p0 p1 t y m') : CQI (Ex S (n + 4)) 237 [.inr 143, .inl p0, .inl p1] m' (fun r m2 => ClS m2 ∧ RefOK m2 ∧ RelB m2 ∧ m2 143 0 = t ∧ (t = 0 → r = y)) (fun _ _ => False) := by
  obtain ⟨hc, hr, m, hb, H⟩ := H
  have h8 : 0 ≤ m' 143 1 ∧ m' 143 1 ≤ 8 := hr.ops.1
  have hz := hb.1
  have e1 : m' 143 1 = m 143 1 := by
    rcases H with ⟨-, -, -, -, e⟩ | ⟨-, -, e⟩ | ⟨-, -, -, e⟩ <;> rw [e]
    repeat rw [upm_ne (by omega)]
  refine f_237x h8 (fun q l r m2 er em => ?_) (fun q => ?_) (fun q l => ?_)
  · rcases H with ⟨rfl, q', l', ey, e⟩ | ⟨rfl, q', e⟩ | ⟨rfl, q', l', e⟩
    · have er2 : m' 153 p0.toNat = m 153 p0.toNat := by
        rw [e]
        repeat rw [upm_ne (by omega)]
      have er3 : m 153 p0.toNat = m 8 p0.toNat := (hb.2.2.2 p0.toNat (by omega)).symm
      refine ⟨hc.ref (fun A i w => ?_), ?_, ?_, ?_, fun _ => by rw [er, ey, er2, er3]⟩
      · unfold pRf at w
        rw [em]
        repeat rw [upm_ne (by omega)]
      · rw [em]
        exact RefOK.up (hr.th' (by omega)) (by omega)
      · rw [em]
        refine RelB.row (A := 8) (B := 153) hb (by omega) (fun C j a b => ?_)
        rw [upm_ne (by omega), e, upm_ne (by omega)]
      · rw [em, upm_ne (by omega), upm_eq]
    · omega
    · omega
  · rcases H with ⟨rfl, q', l', ey, e⟩ | ⟨rfl, q', e⟩ | ⟨rfl, q', l', e⟩
    · omega
    · subst e
      exact ⟨hc.ref (fun A i w => upm_ne (by unfold pRf at w; omega)), hr.th' (by omega), hb.one (by omega), upm_eq, fun z => by omega⟩
    · omega
  · rcases H with ⟨rfl, q', l', ey, e⟩ | ⟨rfl, q', e⟩ | ⟨rfl, q', l', e⟩
    · omega
    · omega
    · subst e
      exact ⟨hc.ref (fun A i w => upm_ne (by unfold pRf at w; omega)), hr.th' (by omega), hb.one (by omega), upm_eq, fun z => by omega⟩
def Hf5 (p0 p1 p2 p3 t y : Int) (m' : MM) : Prop := ClS m' ∧ RefOK m' ∧ ∃ m, RelB m ∧ ((t = 0 ∧ (0 ≤ p0 ∧ p0 < 6) ∧ ((0 ≤ p1 ∧ p1 < 3) ∧ (1 ≤ p2 ∧ p2 ≤ 6) ∧ 1 ≤ p3 ∧ p3 ≤ 15) ∧ y = 0 ∧ m' = upm (upm (upm (upm m 5 p0.toNat p1) 6 p0.toNat p2) 7 p0.toNat p3) 0 11 1) ∨ (t = 1 ∧ ¬ (0 ≤ p0 ∧ p0 < 6) ∧ m' = m) ∨ (t = 2 ∧ (0 ≤ p0 ∧ p0 < 6) ∧ ¬ ((0 ≤ p1 ∧ p1 < 3) ∧ (1 ≤ p2 ∧ p2 ≤ 6) ∧ 1 ≤ p3 ∧ p3 ≤ 15) ∧ m' = m))
theorem cl5 {S : Nat × (Nat → Int32)} {n : Nat} {m : MM} {p0 p1 p2 p3 : Int} (hc : ClS m) (hr : RefOK m) (hb : RelB m) : CQV (Ex S (n + 3)) 59 [.inr 0, .inl p0, .inl p1, .inl p2, .inl p3] m (fun m' => Hf5 p0 p1 p2 p3 0 0 m') (fun e m' => (e = 2 ∧ Hf5 p0 p1 p2 p3 1 0 m') ∨ (e = 0 ∧ Hf5 p0 p1 p2 p3 2 0 m')) :=
  f_59x (n := n + 1) hc (fun q l m' hc' em => ⟨hc', hr.fr (fun A i a b => by rw [em]; repeat rw [upm_ne (by omega)]), m, hb, Or.inl ⟨rfl, q, l, rfl, em⟩⟩) (fun q => Or.inl ⟨rfl, hc, hr, m, hb, Or.inr (Or.inl ⟨rfl, q, rfl⟩)⟩) (fun q l => Or.inr ⟨rfl, hc, hr, m, hb, Or.inr (Or.inr ⟨rfl, q, l, rfl⟩)⟩)
theorem rf5 {S : Nat × (Nat → Int32)} {n : Nat} {m' : MM} {p0 p1 p2 p3 t y : Int} (H : Hf5 p0 p1 p2 p3 t y m') : CQI (Ex S (n + 4)) 236 [.inr 143, .inl p0, .inl p1, .inl p2, .inl p3] m' (fun r m2 => ClS m2 ∧ RefOK m2 ∧ RelB m2 ∧ m2 143 0 = t ∧ (t = 0 → r = y)) (fun _ _ => False) := by
  obtain ⟨hc, hr, m, hb, H⟩ := H
  have h8 : 0 ≤ m' 143 1 ∧ m' 143 1 ≤ 8 := hr.ops.1
  refine f_236x h8 (fun q l m2 em => ?_) (fun q => ?_) (fun q l => ?_)
  · rcases H with ⟨rfl, q', l', ey, e⟩ | ⟨rfl, q', e⟩ | ⟨rfl, q', l', e⟩
    · refine ⟨hc.ref (fun A i w => ?_), ?_, ?_, ?_, fun _ => ey.symm⟩
      · unfold pRf at w
        rw [em]
        repeat rw [upm_ne (by omega)]
      · rw [em]
        exact RefOK.up (RefOK.up (RefOK.up (hr.th' (by omega)) (by omega)) (by omega)) (by omega)
      · have b1 := RelB.row (A := 5) (B := 150) (i := p0.toNat) (x := p1) hb (by omega) (m2 := upm m 5 p0.toNat p1) (fun C j a b => rfl)
        have b2 := RelB.row (A := 6) (B := 151) (i := p0.toNat) (x := p2) b1 (by omega) (fun C j a b => rfl)
        have b3 := RelB.row (A := 7) (B := 152) (i := p0.toNat) (x := p3) b2 (by omega) (fun C j a b => rfl)
        refine b3.fr (fun A i w => ?_)
        rw [em, e]
        unfold upm
        repeat' split
        all_goals first | rfl | omega
      · rw [em]
        repeat rw [upm_ne (by omega)]
        exact upm_eq
    · omega
    · omega
  · rcases H with ⟨rfl, q', l', ey, e⟩ | ⟨rfl, q', e⟩ | ⟨rfl, q', l', e⟩
    · omega
    · subst e
      exact ⟨hc.ref (fun A i w => upm_ne (by unfold pRf at w; omega)), hr.th' (by omega), hb.one (by omega), upm_eq, fun z => by omega⟩
    · omega
  · rcases H with ⟨rfl, q', l', ey, e⟩ | ⟨rfl, q', e⟩ | ⟨rfl, q', l', e⟩
    · omega
    · omega
    · subst e
      exact ⟨hc.ref (fun A i w => upm_ne (by unfold pRf at w; omega)), hr.th' (by omega), hb.one (by omega), upm_eq, fun z => by omega⟩
end
section
/-! isSound and need on both sides -/
theorem RelB.ops {m : MM} (h : RelB m) {o : Nat} (ho : o < 8) : csN m o = srcN m o ∧ (∀ k : Nat, k < 2 → m 3 (4 * o + 2 * k) = srcA m o k ∧ m 3 (4 * o + 2 * k + 1) = srcB m o k) := by
  have q := h.2.1 o ho
  refine ⟨by unfold csN srcN; rw [q.1], fun k hk => ?_⟩
  have a : k = 0 ∨ k = 1 := by omega
  rcases a with rfl | rfl
  · exact ⟨q.2.1, q.2.2.1⟩
  · exact ⟨q.2.2.2.1, q.2.2.2.2.1⟩
theorem csN_rg (m : MM) (o : Nat) : 0 ≤ csN m o ∧ csN m o ≤ 2 := csN_le m o
theorem RelB.snd {m : MM} (h : RelB m) (hr : RefOK m) : SndX m ↔ SoundM m := by
  have h8 := hr.ops.1
  have hz := h.1
  constructor
  · intro hs o ho k hk hn
    have q := h.ops (o := o) (by omega)
    have w := csN_rg m o
    have s := hs o k.toNat (by omega) (by rw [q.1]; omega)
    have e := q.2 k.toNat (by rw [q.1] at w; omega)
    have ek : ((k.toNat : Nat) : Int) = k := by omega
    unfold SrcC at s
    rw [e.1, e.2, ek] at s
    unfold SrcS
    rcases s with s | ⟨s1, s2, s3⟩
    · exact Or.inl s
    · have kk : m 2 (srcA m o k).toNat = m 144 (srcA m o k).toNat := by
        have so := hr.ops.src (o := o) (by omega) hk hn
        unfold srcOK at so
        exact (h.2.1 _ (by omega)).1
      rw [kk] at s2
      exact Or.inr ⟨by omega, s2, by omega⟩
  · intro hs o k ho hn
    have q := h.ops (o := o) (by omega)
    have w := csN_rg m o
    have s := hs o (by omega) k (by omega) (by rw [← q.1]; exact hn)
    have e := q.2 k (by omega)
    unfold SrcC
    rw [e.1, e.2]
    have so := hr.ops.src (o := o) (by omega) (k := (k : Int)) (by omega) (by rw [← q.1]; exact hn)
    unfold SrcS at s
    unfold srcOK at so
    rcases s with s | ⟨s1, s2, s3⟩
    · exact Or.inl s
    · by_cases w2 : srcA m o k < 0
      · exact Or.inl w2
      · have kk : m 2 (srcA m o k).toNat = m 144 (srcA m o k).toNat := (h.2.1 _ (by omega)).1
        rw [kk]
        exact Or.inr ⟨by omega, s2, by omega⟩
theorem RelB.rpl {m : MM} (h : RelB m) (hB : BodyOK m) {o : Nat} (ho : o < 8) : m 2 o = m 144 o ∧ laB m (-1) o = latF m o ∧ (m 2 o = 4 ∨ m 2 o = 5 → rowB m o = rowF m o ∧ plcB m o = plcF m o) := by
  have q := h.2.1 o ho
  have kd := hB.kd ho
  have w := h.2.2.1 (m 2 o).toNat (by omega)
  refine ⟨q.1, ?_, fun k => ?_⟩
  · unfold laB cLa2 latF
    rw [if_neg (by omega), w.2.1, q.1]
  · unfold rowB rowF plcB plcF
    rw [← q.1]
    rcases k with k | k
    · rw [if_neg (by omega), if_pos k, if_neg (by omega), if_pos k]; exact ⟨q.2.1, q.2.2.1⟩
    · rw [if_pos k, if_neg (by omega), if_pos k, if_neg (by omega)]; exact ⟨q.2.2.2.1, q.2.2.2.2.1⟩
theorem NdR.cg {kd row pl la kd2 row2 pl2 la2 : Nat → Int} {s o : Nat} {x : Q4} (h : NdR kd row pl la s o x) (es : kd s = kd2 s ∧ la s = la2 s ∧ (kd s = 4 ∨ kd s = 5 → row s = row2 s ∧ pl s = pl2 s)) (eo : kd o = kd2 o ∧ la o = la2 o ∧ (kd o = 4 ∨ kd o = 5 → row o = row2 o ∧ pl o = pl2 o)) : NdR kd2 row2 pl2 la2 s o x := by
  obtain ⟨h1, h2, h3⟩ := h
  have e1 := es.2.2 (Or.inr h1)
  have e2 := eo.2.2 (by rcases h3 with h | h | h <;> omega)
  unfold NdR
  rw [← es.1, ← es.2.1, ← eo.1, ← e1.1, ← e1.2, ← e2.1, ← e2.2]
  exact ⟨h1, h2, h3⟩
theorem RelB.nd {m : MM} (h : RelB m) (hB : BodyOK m) (hr : RefOK m) (x : Q4) : NdC m (-1) x ↔ NdF m x := by
  have h8 := hr.ops.1
  have hz := h.1
  have la : ∀ a : Int, 0 ≤ a → a ≤ 7 → laB m (-1) a.toNat = latF m a.toNat := fun a b c => (h.rpl hB (o := a.toNat) (by omega)).2.1
  have sy : ∀ o : Nat, o < 8 → (m 2 o = m 144 o ∧ laB m (-1) o = latF m o ∧ (m 2 o = 4 ∨ m 2 o = 5 → rowB m o = rowF m o ∧ plcB m o = plcF m o)) := fun o ho => h.rpl hB ho
  have ys : ∀ o : Nat, o < 8 → (m 144 o = m 2 o ∧ latF m o = laB m (-1) o ∧ (m 144 o = 4 ∨ m 144 o = 5 → rowF m o = rowB m o ∧ plcF m o = plcB m o)) := fun o ho => by
    have q := sy o ho
    exact ⟨q.1.symm, q.2.1.symm, fun k => by
      have w := q.2.2 (by rw [q.1]; exact k)
      exact ⟨w.1.symm, w.2.symm⟩⟩
  constructor
  · rintro (⟨o, k, h1, h2, h3, h4⟩ | ⟨s, o, h1, h2, h3, h4⟩)
    · have q := h.ops (o := o) (by omega)
      have w := csN_rg m o
      have e := q.2 k (by omega)
      have so := hr.ops.src (o := o) (by omega) (k := (k : Int)) (by omega) (by rw [← q.1]; exact h2)
      rw [e.1] at h3 h4
      rw [e.2] at h4
      unfold srcOK at so
      rw [la _ h3 (by omega)] at h4
      exact Or.inl ⟨o, k, by omega, by rw [← q.1]; exact h2, h3, h4⟩
    · exact Or.inr ⟨s, o, by omega, by omega, h3, NdR.cg h4 (sy s (by omega)) (sy o (by omega))⟩
  · rintro (⟨o, k, h1, h2, h3, h4⟩ | ⟨s, o, h1, h2, h3, h4⟩)
    · have q := h.ops (o := o) (by omega)
      have w := csN_rg m o
      rw [q.1] at w
      have e := q.2 k (by omega)
      have so := hr.ops.src (o := o) (by omega) (k := (k : Int)) (by omega) h2
      unfold srcOK at so
      rw [← la _ h3 (by omega), ← e.1, ← e.2] at h4
      rw [← e.1] at h3
      exact Or.inl ⟨o, k, by omega, by rw [q.1]; exact h2, h3, h4⟩
    · exact Or.inr ⟨s, o, by omega, by omega, h3, NdR.cg h4 (ys s (by omega)) (ys o (by omega))⟩
theorem RelB.webs {m m' : MM} (h : RelB m) (hB : BodyOK m) (hr : RefOK m) (w0 : 0 ≤ m 9 0) (v0 : 0 ≤ m' 143 12) (h1 : Enum (cwq m 9) (m 9 0).toNat (NdC m (-1))) (h2 : Enum (rq m') (m' 143 12).toNat (NdF m)) : m 9 0 = m' 143 12 ∧ ∀ i : Nat, (i : Int) < m 9 0 → cwq m 9 i = rq m' i := by
  have u := h1.uniq h2 (h.nd hB hr)
  exact ⟨by omega, fun i hi => u.2 i (by omega)⟩
theorem krf {m m' : MM} (hr : RefOK m) (hF : Frm pNb m m') : RefOK m' := hr.fr (fun A i a b => hF A i (by unfold pNb; omega))
theorem krb {m m' : MM} (hb : RelB m) (hF : Frm pNb m m') : RelB m' := hb.fr (fun A i q => hF A i (by unfold pNb; omega))
theorem qQ {m m' : MM} (hc : ClS m) (hb : RelB m) (hF : FrQ m m') : ClS m' ∧ RelB m' := ⟨hc.ref (fun A i q => hF A i (by unfold pRf at q; omega)), hb.fr (fun A i q => hF A i (by omega))⟩
end
section
/-! plain on both sides -/
theorem RelB.ag {m : MM} (h : RelB m) (hB : BodyOK m) (hr : RefOK m) {o : Nat} (ho : o < 8) : AgO (acsC m) (acsR m) o := by
  have q := h.rpl hB ho
  have w := h.ops ho
  have hab := hr.ab o ho
  refine ⟨q.1, q.2.2, fun k hk => ?_⟩
  have e := w.2 k hk
  have rg : -2 ≤ srcA m o k ∧ srcA m o k ≤ 7 := by
    have a : k = 0 ∨ k = 1 := by omega
    rcases a with rfl | rfl
    · exact hab.1
    · exact hab.2
  refine ⟨e.1, e.2, fun z => ?_, ?_⟩
  · show m 4 (m 3 (4 * o + 2 * k)).toNat = m 149 (m 3 (4 * o + 2 * k)).toNat
    rw [e.1]
    exact (h.2.1 _ (by omega)).2.2.2.2.2
  · show -2 ≤ m 3 (4 * o + 2 * k)
    rw [e.1]; exact rg.1
end
section
/-! rounds, bounds, counts on both sides -/
theorem NdRd.rnd {mc mr m' : MM} {W o : Nat} {r : Int} {P : Q4 → Prop} (ho : o ≤ 8) (w0 : 0 ≤ mc W 0) (hE : Enum (cwq mc W) (mc W 0).toNat P) (hT : WtOK mc W) (hL : RtL (ringsAll (cwq mc W) (mc W 0).toNat o) mc W) (eP : ∀ x, P x ↔ NdF mr x) (w : NdRd mr m' r) (h18 : m' 143 18 = -1) (e1 : m' 143 1 = (o : Int)) : r = upV (mc W 5) (mc W 6) ∧ mc W 0 = m' 143 12 := by
  obtain ⟨hN, hE2, r0, hR⟩ := w
  have u := hE.uniq hE2 eP
  have n0 := hN.2.1.1
  have hV := hN.v
  rw [show (m' 143 1).toNat = o by omega, ← u.1] at hV
  have hV2 : EdV (cwq mc W) (mc W 0).toNat o := fun j hj => by rw [u.2 j hj]; exact hV j hj
  obtain ⟨⟨t1, t2⟩, t3, t4⟩ := hT
  refine ⟨hR.eq r0 t1 (by omega) (fun d hd => ?_), by omega⟩
  rw [NdE.q h18 n0, ← u.1, ← EdQ_cg u.2]
  exact hL.noup ho hV2 hd
end
section
/-! far, height, bare on both sides -/
theorem RelB.rndw {m m' : MM} {r : Int} (h : RelB m) (hB : BodyOK m) (hr : RefOK m) (w0 : 0 ≤ m 9 0) (w : WbX m) (w1 : NdRd m m' r) (r1 : RefOK m') (e1 : m' 143 1 = m 1 0) : r = upV (m 9 5) (m 9 6) := by
  have h8 := hB.1
  exact (w1.rnd (mc := m) (W := 9) (o := (m 1 0).toNat) (by omega) w0 w.2.1 w.2.2.1 w.2.2.2 (h.nd hB hr) r1.lo (by omega)).1
end
section
/-! fits, least, time on both sides -/
section FT
variable {S : Nat × (Nat → Int32)} {n : Nat} {m m' : MM} {d r : Int} {s T : Nat → Int}
theorem RelB.prb (h : RelB m) (hB : BodyOK m) (hr : RefOK m) (w0 : 0 ≤ m 9 0) (w : WbX m) (w1 : NdRd m m' r) (hq : FrQ m m') : PrbE (CPb m d) (RPb m' d) := by
  have h8 := hB.1
  have n0 := w1.1.2.1.1
  have u := h.webs hB hr w0 n0 w.2.1 w1.2.1
  have e1 : m' 143 1 = m 1 0 := (hq 143 1 (by omega)).trans h.1.symm
  refine ⟨show (m 1 0).toNat = (m' 143 1).toNat by rw [e1], rfl, fun o ho => ?_, fun k hk => ?_, fun a b x => ?_⟩
  · have ho2 : o < (m 1 0).toNat := ho
    have g := h.un hB (o := o) (by omega)
    show cUn m o = rUn m' o ∧ cBu m o = rBu m' o
    rw [g.1, g.2.1]
    unfold rUn rBu
    rw [hq 144 o (by omega), hq 150 _ (by omega), hq 152 _ (by omega)]
    exact ⟨rfl, rfl⟩
  · show m 8 k = m' 153 k
    rw [hq 153 k (by omega)]
    exact h.2.2.2 k hk
  · show EdQ (cwq m 9) (m 9 0).toNat d a b x ↔ EdQ (rq m') (m' 143 12).toNat d a b x
    rw [EdQ_cg (c' := rq m') (fun i hi => u.2 i (by omega)), show (m 9 0).toNat = (m' 143 12).toNat by rw [u.1]]
theorem fit_y (h : RelB m) (hB : BodyOK m) (hr : RefOK m) (w0 : 0 ≤ m 9 0) (w : WbX m) (r1 : RefOK m') (hq : FrQ m m') (hF : FitR m m' d) (hN : NoD m d) : False := by
  obtain ⟨-, ⟨r, w1, hd⟩, -, hL, -, -⟩ := hF
  rcases hN with q | q
  · have er := h.rndw hB hr w0 w w1 r1 ((hq 143 1 (by omega)).trans h.1.symm)
    omega
  · exact q _ ((h.prb hB hr w0 w w1 hq).symm.fsb hL.1)
theorem fit_n (h : RelB m) (hB : BodyOK m) (hr : RefOK m) (w0 : 0 ≤ m 9 0) (hs : SoundM m) (w : WbX m) (r1 : RefOK m') (hq : FrQ m m') (hN : NoFR m m' d) (hY : YsC m d) : False := by
  obtain ⟨q1, v, q2⟩ := hY
  rcases hN with (q | ⟨-, r, w1, hd⟩) | ⟨-, ⟨r, w1, hd⟩, q⟩
  · exact q hs
  · have er := h.rndw hB hr w0 w w1 r1 ((hq 143 1 (by omega)).trans h.1.symm)
    omega
  · exact q v ((h.prb hB hr w0 w w1 hq).fsb q2)
theorem NoD.rf (h : NoD m d) (hF : Frm pRf m m') : NoD m' d := by
  unfold NoD
  rw [CPb.cg (fun A i q => hF A i (by unfold pRf; omega)), hF 9 5 (by unfold pRf; omega), hF 9 6 (by unfold pRf; omega)]
  exact h
theorem YsC.rf (h : YsC m d) (hF : Frm pRf m m') : YsC m' d := by
  unfold YsC
  rw [CPb.cg (fun A i q => hF A i (by unfold pRf; omega)), hF 9 5 (by unfold pRf; omega), hF 9 6 (by unfold pRf; omega)]
  exact h
theorem FiT.rf (h : FiT m d s T) (hF : Frm pRf m m') : FiT m' d s T := by
  obtain ⟨h1, h2, h3⟩ := h
  refine ⟨h1.fr (fun A i a b => hF A i (by unfold pRf; omega)), h2.fr (fun A i q => hF A i (by unfold pRf; omega)), ?_⟩
  rw [CPb.cg (fun A i q => hF A i (by unfold pRf; omega)), hF 9 5 (by unfold pRf; omega), hF 9 6 (by unfold pRf; omega)]
  exact h3
theorem upR {x : Int} : Frm pRf m (upm m 143 0 x) := fun A i q => upm_ne (by unfold pRf at q; omega)
def LeC (m : MM) (y : Int) : Prop := (1 ≤ y ∧ y ≤ 12 ∧ YsC m y ∧ ∀ k : Int, 1 ≤ k → k < y → NoD m k) ∨ (y = -1 ∧ ∀ k : Int, 1 ≤ k → k ≤ 12 → NoD m k)
theorem LeC.rf {y : Int} (h : LeC m y) (hF : Frm pRf m m') : LeC m' y := h.imp (fun w => ⟨w.1, w.2.1, w.2.2.1.rf hF, fun k a b => (w.2.2.2 k a b).rf hF⟩) (fun w => ⟨w.1, fun k a b => (w.2 k a b).rf hF⟩)
theorem no_n (hb : RelB m) (hB : BodyOK m) (hr : RefOK m) (w0 : 0 ≤ m 9 0) (r1 : RefOK m') (hq : FrQ m m') (hF : FitR m m' d) (hN : NoC m d) : False := by
  rcases hN with q | ⟨q, w, hN⟩
  · exact q ((hb.snd hr).mpr hF.1)
  · exact fit_y hb hB hr w0 w r1 hq hF hN
theorem no_y (hb : RelB m) (hB : BodyOK m) (hr : RefOK m) (w0 : 0 ≤ m 9 0) (r1 : RefOK m') (hq : FrQ m m') (hN : NoFR m m' d) (hC : FiT m d s T) : False := fit_n hb hB hr w0 ((hb.snd hr).mp hC.1) hC.2.1 r1 hq hN ⟨hC.2.2.1, _, hC.2.2.2.1.1⟩
end FT
end
section
/-! charts on both sides: plan, life, alive, code, idle -/
theorem SoundM.q {m m' : MM} (h : SoundM m) (e : ∀ A i, (A = 143 ∧ i = 1) ∨ (143 < A ∧ A < 154) → m' A i = m A i) : SoundM m' := by
  intro o ho q h1 h2
  rw [e 143 1 (by omega)] at ho
  have e1 : srcN m' o = srcN m o := by unfold srcN; rw [e 144 o (by omega)]
  have e2 : srcA m' o q = srcA m o q := by unfold srcA; rw [e 145 o (by omega), e 147 o (by omega)]
  have e3 : srcB m' o q = srcB m o q := by unfold srcB; rw [e 146 o (by omega), e 148 o (by omega)]
  have := h o ho q h1 (by omega)
  unfold SrcS at this ⊢
  rw [e2, e3, e 143 1 (by omega), e 144 _ (by omega)]
  exact this
theorem NdF.fr {m m' : MM} (x : Q4) (e : ∀ A i, (A = 143 ∧ i = 1) ∨ (143 < A ∧ A < 154) → m' A i = m A i) : NdF m' x ↔ NdF m x := by
  have r4 : m' 144 = m 144 := funext fun i => e 144 i (by omega)
  have eN : srcN m' = srcN m := funext fun o => by unfold srcN; rw [r4]
  have eA : srcA m' = srcA m := funext fun o => funext fun k => by unfold srcA; rw [e 145 o (by omega), e 147 o (by omega)]
  have eB : srcB m' = srcB m := funext fun o => funext fun k => by unfold srcB; rw [e 146 o (by omega), e 148 o (by omega)]
  have eL : latF m' = latF m := funext fun o => by unfold latF; rw [r4, e 151 _ (by omega)]
  have eR : rowF m' = rowF m := funext fun o => by unfold rowF; rw [r4, e 145 o (by omega), e 147 o (by omega)]
  have eP : plcF m' = plcF m := funext fun o => by unfold plcF; rw [r4, e 146 o (by omega), e 148 o (by omega)]
  unfold NdF
  rw [r4, eN, eA, eB, eL, eR, eP, e 143 1 (by omega)]
theorem FitR.th {m m' : MM} {d z : Int} (h : FitR m m' d) : FitR m (upm m' 143 0 z) d := h
theorem FitR.self {m m' : MM} {d : Int} (h : FitR m m' d) (hq : FrQ m m') : FitR m' m' d := by
  obtain ⟨h1, ⟨r, ⟨w1, w2, w3, w4⟩, hd⟩, h3⟩ := h
  have e : ∀ A i, (A = 143 ∧ i = 1) ∨ (143 < A ∧ A < 154) → m' A i = m A i := fun A i q => hq A i (by omega)
  exact ⟨h1.q e, ⟨r, ⟨w1, ⟨w2.1, fun i hi => (NdF.fr _ e).mpr (w2.2.1 i hi), fun q hQ => w2.2.2 q ((NdF.fr _ e).mp hQ)⟩, w3, w4⟩, hd⟩, h3⟩
section GJ
variable {S : Nat × (Nat → Int32)} {n : Nat} {m m' : MM} {d : Int} {Q : Nat}
theorem fin3 {y t z w : Int} (k1 : ClS m) (k2 : RefOK m) (k3 : RelB m) (hz : 1 ≤ z ∧ z ≤ 4) (e : t = z) : ∃ v, some w = some v ∧ ClS (upm m 143 0 z) ∧ RefOK (upm m 143 0 z) ∧ RelB (upm m 143 0 z) ∧ upm m 143 0 z 143 0 = t ∧ (t = 0 → v = y) := ⟨w, rfl, k1.ref upR, k2.th' (by omega), k3.one (by omega), upm_eq.trans e.symm, fun z => by omega⟩
end GJ
end
section
/-! cycles on both sides: flat, cycles, peel, who, holes -/
theorem FitR.ht {m m' : MM} {d z : Int} (h : FitR (upm m 143 0 z) m' d) : FitR m m' d := h
theorem NoFR.ht {m m' : MM} {d z : Int} (h : NoFR (upm m 143 0 z) m' d) : NoFR m m' d := h
section GK
variable {S : Nat × (Nat → Int32)} {n : Nat} {m m' : MM} {d : Int} {Q : Nat}
theorem FiC.ft (h : FiC m d Q) : FiT m d (m (Q + 1)) (m (Q + 2)) := ⟨h.1, h.2.1, h.2.2.1, h.2.2.2.2.1, h.2.2.2.2.2.1⟩
end GK
end
section
/-! gate, pays, squeeze on both sides -/
section GL
variable {S : Nat × (Nat → Int32)} {n : Nat} {m m' : MM} {d : Int} {Q : Nat}
theorem SqN.rf {k z : Int} (h : SqN m k z) (hF : Frm pRf m m') : SqN m' k z := h.imp (fun w => w.rf hF) (fun ⟨s, T, w, x⟩ => ⟨s, T, w.rf hF, by rw [NmF.cg (fun A i q => hF A i (by unfold pRf; omega))]; exact x⟩)
theorem SqX.rf {z r : Int} (h : SqX m z r) (hF : Frm pRf m m') : SqX m' z r := h.imp (fun ⟨a, b, ⟨s, T, w, x⟩, c⟩ => ⟨a, b, ⟨s, T, w.rf hF, by rw [NmF.cg (fun A i q => hF A i (by unfold pRf; omega))]; exact x⟩, fun k i j => (c k i j).rf hF⟩) (fun ⟨a, c⟩ => ⟨a, fun k i j => (c k i j).rf hF⟩)
end GL
end
