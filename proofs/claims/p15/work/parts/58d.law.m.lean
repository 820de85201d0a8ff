section
/-! laid by wip/hand/lw.py: cases of the law -/
theorem te_368_1818 : (pT M_368).find? (fun e => e.1 == 1818) = some (1818, .aload_n 1, 0, 0) := (sk_94 1818 rfl).trans rfl
theorem te_368_1819 : (pT M_368).find? (fun e => e.1 == 1819) = some (1819, .aload_n 0, 0, 0) := (sk_94 1819 rfl).trans rfl
theorem te_368_1820 : (pT M_368).find? (fun e => e.1 == 1820) = some (1820, .iload 4, 0, 0) := (sk_94 1820 rfl).trans rfl
theorem te_368_1822 : (pT M_368).find? (fun e => e.1 == 1822) = some (1822, .iconst 1, 0, 0) := (sk_94 1822 rfl).trans rfl
theorem te_368_1823 : (pT M_368).find? (fun e => e.1 == 1823) = some (1823, .iadd, 0, 0) := (sk_94 1823 rfl).trans rfl
theorem te_368_1824 : (pT M_368).find? (fun e => e.1 == 1824) = some (1824, .iaload, 0, 0) := (sk_94 1824 rfl).trans rfl
theorem te_368_1825 : (pT M_368).find? (fun e => e.1 == 1825) = some (1825, .ifCond .eq 7, 0, 0) := (sk_94 1825 rfl).trans rfl
theorem te_368_1828 : (pT M_368).find? (fun e => e.1 == 1828) = some (1828, .iconst 1, 0, 0) := (sk_94 1828 rfl).trans rfl
theorem te_368_1829 : (pT M_368).find? (fun e => e.1 == 1829) = some (1829, .goto 4, 0, 0) := (sk_94 1829 rfl).trans rfl
theorem te_368_1832 : (pT M_368).find? (fun e => e.1 == 1832) = some (1832, .iconst 0, 0, 0) := (sk_95 1832 rfl).trans rfl
theorem te_368_1833 : (pT M_368).find? (fun e => e.1 == 1833) = some (1833, .aload_n 3, 0, 0) := (sk_95 1833 rfl).trans rfl
theorem te_368_1834 : (pT M_368).find? (fun e => e.1 == 1834) = some (1834, .invokestatic 293, 187, 8) := (sk_95 1834 rfl).trans rfl
theorem te_368_1837 : (pT M_368).find? (fun e => e.1 == 1837) = some (1837, .istore 5, 0, 0) := (sk_95 1837 rfl).trans rfl
theorem te_368_1839 : (pT M_368).find? (fun e => e.1 == 1839) = some (1839, .aload_n 2, 0, 0) := (sk_95 1839 rfl).trans rfl
theorem te_368_1840 : (pT M_368).find? (fun e => e.1 == 1840) = some (1840, .aload_n 0, 0, 0) := (sk_95 1840 rfl).trans rfl
theorem te_368_1841 : (pT M_368).find? (fun e => e.1 == 1841) = some (1841, .iload 4, 0, 0) := (sk_95 1841 rfl).trans rfl
theorem te_368_1843 : (pT M_368).find? (fun e => e.1 == 1843) = some (1843, .iconst 1, 0, 0) := (sk_95 1843 rfl).trans rfl
theorem te_368_1844 : (pT M_368).find? (fun e => e.1 == 1844) = some (1844, .iadd, 0, 0) := (sk_95 1844 rfl).trans rfl
theorem te_368_1845 : (pT M_368).find? (fun e => e.1 == 1845) = some (1845, .iaload, 0, 0) := (sk_95 1845 rfl).trans rfl
theorem te_368_1846 : (pT M_368).find? (fun e => e.1 == 1846) = some (1846, .ifCond .eq 7, 0, 0) := (sk_95 1846 rfl).trans rfl
theorem te_368_1849 : (pT M_368).find? (fun e => e.1 == 1849) = some (1849, .iconst 1, 0, 0) := (sk_95 1849 rfl).trans rfl
theorem te_368_1850 : (pT M_368).find? (fun e => e.1 == 1850) = some (1850, .goto 4, 0, 0) := (sk_96 1850 rfl).trans rfl
theorem te_368_1853 : (pT M_368).find? (fun e => e.1 == 1853) = some (1853, .iconst 0, 0, 0) := (sk_96 1853 rfl).trans rfl
theorem te_368_1854 : (pT M_368).find? (fun e => e.1 == 1854) = some (1854, .invokevirtual 296, 343, 0) := (sk_96 1854 rfl).trans rfl
theorem te_368_1857 : (pT M_368).find? (fun e => e.1 == 1857) = some (1857, .istore 6, 0, 0) := (sk_96 1857 rfl).trans rfl
theorem te_368_1859 : (pT M_368).find? (fun e => e.1 == 1859) = some (1859, .goto 492, 0, 0) := (sk_96 1859 rfl).trans rfl
theorem te_368_1862 : (pT M_368).find? (fun e => e.1 == 1862) = some (1862, .aload_n 1, 0, 0) := (sk_96 1862 rfl).trans rfl
theorem te_368_1863 : (pT M_368).find? (fun e => e.1 == 1863) = some (1863, .aload_n 3, 0, 0) := (sk_96 1863 rfl).trans rfl
theorem te_368_1864 : (pT M_368).find? (fun e => e.1 == 1864) = some (1864, .invokestatic 297, 189, 8) := (sk_96 1864 rfl).trans rfl
theorem te_368_1867 : (pT M_368).find? (fun e => e.1 == 1867) = some (1867, .istore 5, 0, 0) := (sk_96 1867 rfl).trans rfl
theorem te_368_1869 : (pT M_368).find? (fun e => e.1 == 1869) = some (1869, .aload_n 2, 0, 0) := (sk_96 1869 rfl).trans rfl
theorem te_368_1870 : (pT M_368).find? (fun e => e.1 == 1870) = some (1870, .invokevirtual 299, 348, 0) := (sk_96 1870 rfl).trans rfl
theorem te_368_1873 : (pT M_368).find? (fun e => e.1 == 1873) = some (1873, .istore 6, 0, 0) := (sk_96 1873 rfl).trans rfl
theorem te_368_1875 : (pT M_368).find? (fun e => e.1 == 1875) = some (1875, .goto 476, 0, 0) := (sk_97 1875 rfl).trans rfl
theorem te_368_1878 : (pT M_368).find? (fun e => e.1 == 1878) = some (1878, .aload_n 1, 0, 0) := (sk_97 1878 rfl).trans rfl
theorem te_368_1879 : (pT M_368).find? (fun e => e.1 == 1879) = some (1879, .aload_n 0, 0, 0) := (sk_97 1879 rfl).trans rfl
theorem te_368_1880 : (pT M_368).find? (fun e => e.1 == 1880) = some (1880, .iload 4, 0, 0) := (sk_97 1880 rfl).trans rfl
theorem te_368_1882 : (pT M_368).find? (fun e => e.1 == 1882) = some (1882, .iconst 1, 0, 0) := (sk_97 1882 rfl).trans rfl
theorem te_368_1883 : (pT M_368).find? (fun e => e.1 == 1883) = some (1883, .iadd, 0, 0) := (sk_97 1883 rfl).trans rfl
theorem te_368_1884 : (pT M_368).find? (fun e => e.1 == 1884) = some (1884, .iaload, 0, 0) := (sk_97 1884 rfl).trans rfl
theorem te_368_1885 : (pT M_368).find? (fun e => e.1 == 1885) = some (1885, .aload_n 3, 0, 0) := (sk_97 1885 rfl).trans rfl
theorem te_368_1886 : (pT M_368).find? (fun e => e.1 == 1886) = some (1886, .invokestatic 300, 191, 8) := (sk_97 1886 rfl).trans rfl
theorem te_368_1889 : (pT M_368).find? (fun e => e.1 == 1889) = some (1889, .istore 5, 0, 0) := (sk_97 1889 rfl).trans rfl
theorem te_368_1891 : (pT M_368).find? (fun e => e.1 == 1891) = some (1891, .aload_n 2, 0, 0) := (sk_97 1891 rfl).trans rfl
theorem te_368_1892 : (pT M_368).find? (fun e => e.1 == 1892) = some (1892, .aload_n 0, 0, 0) := (sk_97 1892 rfl).trans rfl
theorem te_368_1893 : (pT M_368).find? (fun e => e.1 == 1893) = some (1893, .iload 4, 0, 0) := (sk_98 1893 rfl).trans rfl
theorem te_368_1895 : (pT M_368).find? (fun e => e.1 == 1895) = some (1895, .iconst 1, 0, 0) := (sk_98 1895 rfl).trans rfl
theorem te_368_1896 : (pT M_368).find? (fun e => e.1 == 1896) = some (1896, .iadd, 0, 0) := (sk_98 1896 rfl).trans rfl
theorem te_368_1897 : (pT M_368).find? (fun e => e.1 == 1897) = some (1897, .iaload, 0, 0) := (sk_98 1897 rfl).trans rfl
theorem te_368_1898 : (pT M_368).find? (fun e => e.1 == 1898) = some (1898, .invokevirtual 302, 349, 0) := (sk_98 1898 rfl).trans rfl
theorem te_368_1901 : (pT M_368).find? (fun e => e.1 == 1901) = some (1901, .istore 6, 0, 0) := (sk_98 1901 rfl).trans rfl
theorem te_368_1903 : (pT M_368).find? (fun e => e.1 == 1903) = some (1903, .goto 448, 0, 0) := (sk_98 1903 rfl).trans rfl
theorem te_368_1906 : (pT M_368).find? (fun e => e.1 == 1906) = some (1906, .aload_n 1, 0, 0) := (sk_98 1906 rfl).trans rfl
theorem te_368_1907 : (pT M_368).find? (fun e => e.1 == 1907) = some (1907, .aload_n 3, 0, 0) := (sk_98 1907 rfl).trans rfl
theorem te_368_1908 : (pT M_368).find? (fun e => e.1 == 1908) = some (1908, .invokestatic 303, 193, 8) := (sk_98 1908 rfl).trans rfl
theorem te_368_1911 : (pT M_368).find? (fun e => e.1 == 1911) = some (1911, .istore 5, 0, 0) := (sk_98 1911 rfl).trans rfl
theorem te_368_1913 : (pT M_368).find? (fun e => e.1 == 1913) = some (1913, .aload_n 2, 0, 0) := (sk_98 1913 rfl).trans rfl
theorem te_368_1914 : (pT M_368).find? (fun e => e.1 == 1914) = some (1914, .invokevirtual 305, 351, 0) := (sk_99 1914 rfl).trans rfl
theorem te_368_1917 : (pT M_368).find? (fun e => e.1 == 1917) = some (1917, .istore 6, 0, 0) := (sk_99 1917 rfl).trans rfl
theorem te_368_1919 : (pT M_368).find? (fun e => e.1 == 1919) = some (1919, .goto 432, 0, 0) := (sk_99 1919 rfl).trans rfl
theorem te_368_1922 : (pT M_368).find? (fun e => e.1 == 1922) = some (1922, .aload_n 1, 0, 0) := (sk_99 1922 rfl).trans rfl
theorem te_368_1923 : (pT M_368).find? (fun e => e.1 == 1923) = some (1923, .aload_n 0, 0, 0) := (sk_99 1923 rfl).trans rfl
theorem te_368_1924 : (pT M_368).find? (fun e => e.1 == 1924) = some (1924, .iload 4, 0, 0) := (sk_99 1924 rfl).trans rfl
theorem te_368_1926 : (pT M_368).find? (fun e => e.1 == 1926) = some (1926, .iconst 1, 0, 0) := (sk_99 1926 rfl).trans rfl
theorem te_368_1927 : (pT M_368).find? (fun e => e.1 == 1927) = some (1927, .iadd, 0, 0) := (sk_99 1927 rfl).trans rfl
theorem te_368_1928 : (pT M_368).find? (fun e => e.1 == 1928) = some (1928, .iaload, 0, 0) := (sk_99 1928 rfl).trans rfl
theorem te_368_1929 : (pT M_368).find? (fun e => e.1 == 1929) = some (1929, .aload_n 3, 0, 0) := (sk_99 1929 rfl).trans rfl
theorem te_368_1930 : (pT M_368).find? (fun e => e.1 == 1930) = some (1930, .invokestatic 306, 195, 8) := (sk_99 1930 rfl).trans rfl
theorem te_368_1933 : (pT M_368).find? (fun e => e.1 == 1933) = some (1933, .istore 5, 0, 0) := (sk_99 1933 rfl).trans rfl
theorem te_368_1935 : (pT M_368).find? (fun e => e.1 == 1935) = some (1935, .aload_n 2, 0, 0) := (sk_100 1935 rfl).trans rfl
theorem te_368_1936 : (pT M_368).find? (fun e => e.1 == 1936) = some (1936, .aload_n 0, 0, 0) := (sk_100 1936 rfl).trans rfl
theorem te_368_1937 : (pT M_368).find? (fun e => e.1 == 1937) = some (1937, .iload 4, 0, 0) := (sk_100 1937 rfl).trans rfl
theorem te_368_1939 : (pT M_368).find? (fun e => e.1 == 1939) = some (1939, .iconst 1, 0, 0) := (sk_100 1939 rfl).trans rfl
theorem te_368_1940 : (pT M_368).find? (fun e => e.1 == 1940) = some (1940, .iadd, 0, 0) := (sk_100 1940 rfl).trans rfl
theorem te_368_1941 : (pT M_368).find? (fun e => e.1 == 1941) = some (1941, .iaload, 0, 0) := (sk_100 1941 rfl).trans rfl
theorem te_368_1942 : (pT M_368).find? (fun e => e.1 == 1942) = some (1942, .invokevirtual 308, 352, 0) := (sk_100 1942 rfl).trans rfl
theorem te_368_1945 : (pT M_368).find? (fun e => e.1 == 1945) = some (1945, .istore 6, 0, 0) := (sk_100 1945 rfl).trans rfl
theorem te_368_1947 : (pT M_368).find? (fun e => e.1 == 1947) = some (1947, .goto 404, 0, 0) := (sk_100 1947 rfl).trans rfl
theorem te_368_1950 : (pT M_368).find? (fun e => e.1 == 1950) = some (1950, .aload_n 1, 0, 0) := (sk_100 1950 rfl).trans rfl
theorem te_368_1951 : (pT M_368).find? (fun e => e.1 == 1951) = some (1951, .aload_n 0, 0, 0) := (sk_100 1951 rfl).trans rfl
theorem te_368_1952 : (pT M_368).find? (fun e => e.1 == 1952) = some (1952, .iload 4, 0, 0) := (sk_100 1952 rfl).trans rfl
theorem te_368_1954 : (pT M_368).find? (fun e => e.1 == 1954) = some (1954, .iconst 1, 0, 0) := (sk_101 1954 rfl).trans rfl
theorem te_368_1955 : (pT M_368).find? (fun e => e.1 == 1955) = some (1955, .iadd, 0, 0) := (sk_101 1955 rfl).trans rfl
theorem te_368_1956 : (pT M_368).find? (fun e => e.1 == 1956) = some (1956, .iaload, 0, 0) := (sk_101 1956 rfl).trans rfl
theorem te_368_1957 : (pT M_368).find? (fun e => e.1 == 1957) = some (1957, .aload_n 3, 0, 0) := (sk_101 1957 rfl).trans rfl
theorem te_368_1958 : (pT M_368).find? (fun e => e.1 == 1958) = some (1958, .invokestatic 309, 197, 8) := (sk_101 1958 rfl).trans rfl
theorem te_368_1961 : (pT M_368).find? (fun e => e.1 == 1961) = some (1961, .istore 5, 0, 0) := (sk_101 1961 rfl).trans rfl
theorem te_368_1963 : (pT M_368).find? (fun e => e.1 == 1963) = some (1963, .aload_n 2, 0, 0) := (sk_101 1963 rfl).trans rfl
theorem te_368_1964 : (pT M_368).find? (fun e => e.1 == 1964) = some (1964, .aload_n 0, 0, 0) := (sk_101 1964 rfl).trans rfl
theorem te_368_1965 : (pT M_368).find? (fun e => e.1 == 1965) = some (1965, .iload 4, 0, 0) := (sk_101 1965 rfl).trans rfl
theorem te_368_1967 : (pT M_368).find? (fun e => e.1 == 1967) = some (1967, .iconst 1, 0, 0) := (sk_101 1967 rfl).trans rfl
theorem te_368_1968 : (pT M_368).find? (fun e => e.1 == 1968) = some (1968, .iadd, 0, 0) := (sk_101 1968 rfl).trans rfl
theorem te_368_1969 : (pT M_368).find? (fun e => e.1 == 1969) = some (1969, .iaload, 0, 0) := (sk_101 1969 rfl).trans rfl
theorem te_368_1970 : (pT M_368).find? (fun e => e.1 == 1970) = some (1970, .invokevirtual 311, 355, 0) := (sk_102 1970 rfl).trans rfl
theorem te_368_1973 : (pT M_368).find? (fun e => e.1 == 1973) = some (1973, .istore 6, 0, 0) := (sk_102 1973 rfl).trans rfl
theorem te_368_1975 : (pT M_368).find? (fun e => e.1 == 1975) = some (1975, .goto 376, 0, 0) := (sk_102 1975 rfl).trans rfl
theorem te_368_1978 : (pT M_368).find? (fun e => e.1 == 1978) = some (1978, .aload_n 1, 0, 0) := (sk_102 1978 rfl).trans rfl
theorem te_368_1979 : (pT M_368).find? (fun e => e.1 == 1979) = some (1979, .aload_n 0, 0, 0) := (sk_102 1979 rfl).trans rfl
theorem te_368_1980 : (pT M_368).find? (fun e => e.1 == 1980) = some (1980, .iload 4, 0, 0) := (sk_102 1980 rfl).trans rfl
theorem te_368_1982 : (pT M_368).find? (fun e => e.1 == 1982) = some (1982, .iconst 1, 0, 0) := (sk_102 1982 rfl).trans rfl
theorem te_368_1983 : (pT M_368).find? (fun e => e.1 == 1983) = some (1983, .iadd, 0, 0) := (sk_102 1983 rfl).trans rfl
theorem te_368_1984 : (pT M_368).find? (fun e => e.1 == 1984) = some (1984, .iaload, 0, 0) := (sk_102 1984 rfl).trans rfl
theorem te_368_1985 : (pT M_368).find? (fun e => e.1 == 1985) = some (1985, .aload_n 0, 0, 0) := (sk_102 1985 rfl).trans rfl
theorem te_368_1986 : (pT M_368).find? (fun e => e.1 == 1986) = some (1986, .iload 4, 0, 0) := (sk_102 1986 rfl).trans rfl
theorem te_368_1988 : (pT M_368).find? (fun e => e.1 == 1988) = some (1988, .iconst 2, 0, 0) := (sk_102 1988 rfl).trans rfl
theorem te_368_1989 : (pT M_368).find? (fun e => e.1 == 1989) = some (1989, .iadd, 0, 0) := (sk_103 1989 rfl).trans rfl
theorem te_368_1990 : (pT M_368).find? (fun e => e.1 == 1990) = some (1990, .iaload, 0, 0) := (sk_103 1990 rfl).trans rfl
theorem te_368_1991 : (pT M_368).find? (fun e => e.1 == 1991) = some (1991, .aload_n 3, 0, 0) := (sk_103 1991 rfl).trans rfl
theorem te_368_1992 : (pT M_368).find? (fun e => e.1 == 1992) = some (1992, .invokestatic 312, 200, 8) := (sk_103 1992 rfl).trans rfl
theorem te_368_1995 : (pT M_368).find? (fun e => e.1 == 1995) = some (1995, .istore 5, 0, 0) := (sk_103 1995 rfl).trans rfl
theorem te_368_1997 : (pT M_368).find? (fun e => e.1 == 1997) = some (1997, .aload_n 2, 0, 0) := (sk_103 1997 rfl).trans rfl
theorem te_368_1998 : (pT M_368).find? (fun e => e.1 == 1998) = some (1998, .aload_n 0, 0, 0) := (sk_103 1998 rfl).trans rfl
theorem te_368_1999 : (pT M_368).find? (fun e => e.1 == 1999) = some (1999, .iload 4, 0, 0) := (sk_103 1999 rfl).trans rfl
theorem te_368_2001 : (pT M_368).find? (fun e => e.1 == 2001) = some (2001, .iconst 1, 0, 0) := (sk_103 2001 rfl).trans rfl
theorem te_368_2002 : (pT M_368).find? (fun e => e.1 == 2002) = some (2002, .iadd, 0, 0) := (sk_103 2002 rfl).trans rfl
theorem te_368_2003 : (pT M_368).find? (fun e => e.1 == 2003) = some (2003, .iaload, 0, 0) := (sk_103 2003 rfl).trans rfl
theorem te_368_2004 : (pT M_368).find? (fun e => e.1 == 2004) = some (2004, .aload_n 0, 0, 0) := (sk_103 2004 rfl).trans rfl
theorem te_368_2005 : (pT M_368).find? (fun e => e.1 == 2005) = some (2005, .iload 4, 0, 0) := (sk_104 2005 rfl).trans rfl
theorem te_368_2007 : (pT M_368).find? (fun e => e.1 == 2007) = some (2007, .iconst 2, 0, 0) := (sk_104 2007 rfl).trans rfl
theorem te_368_2008 : (pT M_368).find? (fun e => e.1 == 2008) = some (2008, .iadd, 0, 0) := (sk_104 2008 rfl).trans rfl
theorem te_368_2009 : (pT M_368).find? (fun e => e.1 == 2009) = some (2009, .iaload, 0, 0) := (sk_104 2009 rfl).trans rfl
theorem te_368_2010 : (pT M_368).find? (fun e => e.1 == 2010) = some (2010, .invokevirtual 314, 356, 0) := (sk_104 2010 rfl).trans rfl
theorem te_368_2013 : (pT M_368).find? (fun e => e.1 == 2013) = some (2013, .istore 6, 0, 0) := (sk_104 2013 rfl).trans rfl
theorem te_368_2015 : (pT M_368).find? (fun e => e.1 == 2015) = some (2015, .goto 336, 0, 0) := (sk_104 2015 rfl).trans rfl
theorem te_368_2018 : (pT M_368).find? (fun e => e.1 == 2018) = some (2018, .aload_n 1, 0, 0) := (sk_104 2018 rfl).trans rfl
theorem te_368_2019 : (pT M_368).find? (fun e => e.1 == 2019) = some (2019, .aload_n 0, 0, 0) := (sk_104 2019 rfl).trans rfl
theorem te_368_2020 : (pT M_368).find? (fun e => e.1 == 2020) = some (2020, .iload 4, 0, 0) := (sk_104 2020 rfl).trans rfl
theorem te_368_2022 : (pT M_368).find? (fun e => e.1 == 2022) = some (2022, .iconst 1, 0, 0) := (sk_104 2022 rfl).trans rfl
theorem te_368_2023 : (pT M_368).find? (fun e => e.1 == 2023) = some (2023, .iadd, 0, 0) := (sk_104 2023 rfl).trans rfl
theorem te_368_2024 : (pT M_368).find? (fun e => e.1 == 2024) = some (2024, .iaload, 0, 0) := (sk_105 2024 rfl).trans rfl
theorem te_368_2025 : (pT M_368).find? (fun e => e.1 == 2025) = some (2025, .aload_n 0, 0, 0) := (sk_105 2025 rfl).trans rfl
theorem te_368_2026 : (pT M_368).find? (fun e => e.1 == 2026) = some (2026, .iload 4, 0, 0) := (sk_105 2026 rfl).trans rfl
theorem te_368_2028 : (pT M_368).find? (fun e => e.1 == 2028) = some (2028, .iconst 2, 0, 0) := (sk_105 2028 rfl).trans rfl
theorem te_368_2029 : (pT M_368).find? (fun e => e.1 == 2029) = some (2029, .iadd, 0, 0) := (sk_105 2029 rfl).trans rfl
theorem te_368_2030 : (pT M_368).find? (fun e => e.1 == 2030) = some (2030, .iaload, 0, 0) := (sk_105 2030 rfl).trans rfl
theorem te_368_2031 : (pT M_368).find? (fun e => e.1 == 2031) = some (2031, .aload_n 0, 0, 0) := (sk_105 2031 rfl).trans rfl
theorem te_368_2032 : (pT M_368).find? (fun e => e.1 == 2032) = some (2032, .iload 4, 0, 0) := (sk_105 2032 rfl).trans rfl
theorem te_368_2034 : (pT M_368).find? (fun e => e.1 == 2034) = some (2034, .iconst 3, 0, 0) := (sk_105 2034 rfl).trans rfl
theorem te_368_2035 : (pT M_368).find? (fun e => e.1 == 2035) = some (2035, .iadd, 0, 0) := (sk_105 2035 rfl).trans rfl
theorem te_368_2036 : (pT M_368).find? (fun e => e.1 == 2036) = some (2036, .iaload, 0, 0) := (sk_105 2036 rfl).trans rfl
theorem te_368_2037 : (pT M_368).find? (fun e => e.1 == 2037) = some (2037, .ifCond .eq 7, 0, 0) := (sk_105 2037 rfl).trans rfl
theorem te_368_2040 : (pT M_368).find? (fun e => e.1 == 2040) = some (2040, .iconst 1, 0, 0) := (sk_106 2040 rfl).trans rfl
theorem te_368_2041 : (pT M_368).find? (fun e => e.1 == 2041) = some (2041, .goto 4, 0, 0) := (sk_106 2041 rfl).trans rfl
theorem te_368_2044 : (pT M_368).find? (fun e => e.1 == 2044) = some (2044, .iconst 0, 0, 0) := (sk_106 2044 rfl).trans rfl
theorem te_368_2045 : (pT M_368).find? (fun e => e.1 == 2045) = some (2045, .aload_n 3, 0, 0) := (sk_106 2045 rfl).trans rfl
theorem te_368_2046 : (pT M_368).find? (fun e => e.1 == 2046) = some (2046, .invokestatic 315, 202, 8) := (sk_106 2046 rfl).trans rfl
theorem te_368_2049 : (pT M_368).find? (fun e => e.1 == 2049) = some (2049, .istore 5, 0, 0) := (sk_106 2049 rfl).trans rfl
theorem te_368_2051 : (pT M_368).find? (fun e => e.1 == 2051) = some (2051, .aload_n 2, 0, 0) := (sk_106 2051 rfl).trans rfl
theorem te_368_2052 : (pT M_368).find? (fun e => e.1 == 2052) = some (2052, .aload_n 0, 0, 0) := (sk_106 2052 rfl).trans rfl
theorem te_368_2053 : (pT M_368).find? (fun e => e.1 == 2053) = some (2053, .iload 4, 0, 0) := (sk_106 2053 rfl).trans rfl
theorem te_368_2055 : (pT M_368).find? (fun e => e.1 == 2055) = some (2055, .iconst 1, 0, 0) := (sk_106 2055 rfl).trans rfl
theorem te_368_2056 : (pT M_368).find? (fun e => e.1 == 2056) = some (2056, .iadd, 0, 0) := (sk_106 2056 rfl).trans rfl
theorem te_368_2057 : (pT M_368).find? (fun e => e.1 == 2057) = some (2057, .iaload, 0, 0) := (sk_106 2057 rfl).trans rfl
theorem te_368_2058 : (pT M_368).find? (fun e => e.1 == 2058) = some (2058, .aload_n 0, 0, 0) := (sk_107 2058 rfl).trans rfl
theorem te_368_2059 : (pT M_368).find? (fun e => e.1 == 2059) = some (2059, .iload 4, 0, 0) := (sk_107 2059 rfl).trans rfl
theorem te_368_2061 : (pT M_368).find? (fun e => e.1 == 2061) = some (2061, .iconst 2, 0, 0) := (sk_107 2061 rfl).trans rfl
theorem te_368_2062 : (pT M_368).find? (fun e => e.1 == 2062) = some (2062, .iadd, 0, 0) := (sk_107 2062 rfl).trans rfl
theorem te_368_2063 : (pT M_368).find? (fun e => e.1 == 2063) = some (2063, .iaload, 0, 0) := (sk_107 2063 rfl).trans rfl
theorem te_368_2064 : (pT M_368).find? (fun e => e.1 == 2064) = some (2064, .aload_n 0, 0, 0) := (sk_107 2064 rfl).trans rfl
theorem te_368_2065 : (pT M_368).find? (fun e => e.1 == 2065) = some (2065, .iload 4, 0, 0) := (sk_107 2065 rfl).trans rfl
theorem te_368_2067 : (pT M_368).find? (fun e => e.1 == 2067) = some (2067, .iconst 3, 0, 0) := (sk_107 2067 rfl).trans rfl
theorem te_368_2068 : (pT M_368).find? (fun e => e.1 == 2068) = some (2068, .iadd, 0, 0) := (sk_107 2068 rfl).trans rfl
theorem te_368_2069 : (pT M_368).find? (fun e => e.1 == 2069) = some (2069, .iaload, 0, 0) := (sk_107 2069 rfl).trans rfl
theorem te_368_2070 : (pT M_368).find? (fun e => e.1 == 2070) = some (2070, .ifCond .eq 7, 0, 0) := (sk_107 2070 rfl).trans rfl
theorem te_368_2073 : (pT M_368).find? (fun e => e.1 == 2073) = some (2073, .iconst 1, 0, 0) := (sk_107 2073 rfl).trans rfl
theorem te_368_2074 : (pT M_368).find? (fun e => e.1 == 2074) = some (2074, .goto 4, 0, 0) := (sk_108 2074 rfl).trans rfl
theorem te_368_2077 : (pT M_368).find? (fun e => e.1 == 2077) = some (2077, .iconst 0, 0, 0) := (sk_108 2077 rfl).trans rfl
theorem te_368_2078 : (pT M_368).find? (fun e => e.1 == 2078) = some (2078, .invokevirtual 317, 359, 0) := (sk_108 2078 rfl).trans rfl
theorem te_368_2081 : (pT M_368).find? (fun e => e.1 == 2081) = some (2081, .istore 6, 0, 0) := (sk_108 2081 rfl).trans rfl
theorem te_368_2083 : (pT M_368).find? (fun e => e.1 == 2083) = some (2083, .goto 268, 0, 0) := (sk_108 2083 rfl).trans rfl
theorem te_368_2086 : (pT M_368).find? (fun e => e.1 == 2086) = some (2086, .aload_n 1, 0, 0) := (sk_108 2086 rfl).trans rfl
theorem te_368_2087 : (pT M_368).find? (fun e => e.1 == 2087) = some (2087, .aload_n 0, 0, 0) := (sk_108 2087 rfl).trans rfl
theorem te_368_2088 : (pT M_368).find? (fun e => e.1 == 2088) = some (2088, .iload 4, 0, 0) := (sk_108 2088 rfl).trans rfl
theorem te_368_2090 : (pT M_368).find? (fun e => e.1 == 2090) = some (2090, .iconst 1, 0, 0) := (sk_108 2090 rfl).trans rfl
theorem te_368_2091 : (pT M_368).find? (fun e => e.1 == 2091) = some (2091, .iadd, 0, 0) := (sk_108 2091 rfl).trans rfl
theorem te_368_2092 : (pT M_368).find? (fun e => e.1 == 2092) = some (2092, .iaload, 0, 0) := (sk_108 2092 rfl).trans rfl
theorem te_368_2093 : (pT M_368).find? (fun e => e.1 == 2093) = some (2093, .aload_n 0, 0, 0) := (sk_108 2093 rfl).trans rfl
theorem te_368_2094 : (pT M_368).find? (fun e => e.1 == 2094) = some (2094, .iload 4, 0, 0) := (sk_109 2094 rfl).trans rfl
theorem te_368_2096 : (pT M_368).find? (fun e => e.1 == 2096) = some (2096, .iconst 2, 0, 0) := (sk_109 2096 rfl).trans rfl
theorem te_368_2097 : (pT M_368).find? (fun e => e.1 == 2097) = some (2097, .iadd, 0, 0) := (sk_109 2097 rfl).trans rfl
theorem te_368_2098 : (pT M_368).find? (fun e => e.1 == 2098) = some (2098, .iaload, 0, 0) := (sk_109 2098 rfl).trans rfl
theorem te_368_2099 : (pT M_368).find? (fun e => e.1 == 2099) = some (2099, .aload_n 0, 0, 0) := (sk_109 2099 rfl).trans rfl
theorem te_368_2100 : (pT M_368).find? (fun e => e.1 == 2100) = some (2100, .iload 4, 0, 0) := (sk_109 2100 rfl).trans rfl
theorem te_368_2102 : (pT M_368).find? (fun e => e.1 == 2102) = some (2102, .iconst 3, 0, 0) := (sk_109 2102 rfl).trans rfl
theorem te_368_2103 : (pT M_368).find? (fun e => e.1 == 2103) = some (2103, .iadd, 0, 0) := (sk_109 2103 rfl).trans rfl
theorem te_368_2104 : (pT M_368).find? (fun e => e.1 == 2104) = some (2104, .iaload, 0, 0) := (sk_109 2104 rfl).trans rfl
theorem te_368_2105 : (pT M_368).find? (fun e => e.1 == 2105) = some (2105, .aload_n 3, 0, 0) := (sk_109 2105 rfl).trans rfl
theorem te_368_2106 : (pT M_368).find? (fun e => e.1 == 2106) = some (2106, .invokestatic 318, 206, 8) := (sk_109 2106 rfl).trans rfl
theorem te_368_2109 : (pT M_368).find? (fun e => e.1 == 2109) = some (2109, .istore 5, 0, 0) := (sk_109 2109 rfl).trans rfl
theorem te_368_2111 : (pT M_368).find? (fun e => e.1 == 2111) = some (2111, .aload_n 2, 0, 0) := (sk_110 2111 rfl).trans rfl
theorem te_368_2112 : (pT M_368).find? (fun e => e.1 == 2112) = some (2112, .aload_n 0, 0, 0) := (sk_110 2112 rfl).trans rfl
theorem te_368_2113 : (pT M_368).find? (fun e => e.1 == 2113) = some (2113, .iload 4, 0, 0) := (sk_110 2113 rfl).trans rfl
theorem te_368_2115 : (pT M_368).find? (fun e => e.1 == 2115) = some (2115, .iconst 1, 0, 0) := (sk_110 2115 rfl).trans rfl
theorem te_368_2116 : (pT M_368).find? (fun e => e.1 == 2116) = some (2116, .iadd, 0, 0) := (sk_110 2116 rfl).trans rfl
theorem te_368_2117 : (pT M_368).find? (fun e => e.1 == 2117) = some (2117, .iaload, 0, 0) := (sk_110 2117 rfl).trans rfl
theorem te_368_2118 : (pT M_368).find? (fun e => e.1 == 2118) = some (2118, .aload_n 0, 0, 0) := (sk_110 2118 rfl).trans rfl
theorem te_368_2119 : (pT M_368).find? (fun e => e.1 == 2119) = some (2119, .iload 4, 0, 0) := (sk_110 2119 rfl).trans rfl
theorem te_368_2121 : (pT M_368).find? (fun e => e.1 == 2121) = some (2121, .iconst 2, 0, 0) := (sk_110 2121 rfl).trans rfl
theorem te_368_2122 : (pT M_368).find? (fun e => e.1 == 2122) = some (2122, .iadd, 0, 0) := (sk_110 2122 rfl).trans rfl
theorem te_368_2123 : (pT M_368).find? (fun e => e.1 == 2123) = some (2123, .iaload, 0, 0) := (sk_110 2123 rfl).trans rfl
theorem te_368_2124 : (pT M_368).find? (fun e => e.1 == 2124) = some (2124, .aload_n 0, 0, 0) := (sk_110 2124 rfl).trans rfl
theorem te_368_2125 : (pT M_368).find? (fun e => e.1 == 2125) = some (2125, .iload 4, 0, 0) := (sk_111 2125 rfl).trans rfl
theorem te_368_2127 : (pT M_368).find? (fun e => e.1 == 2127) = some (2127, .iconst 3, 0, 0) := (sk_111 2127 rfl).trans rfl
theorem te_368_2128 : (pT M_368).find? (fun e => e.1 == 2128) = some (2128, .iadd, 0, 0) := (sk_111 2128 rfl).trans rfl
theorem te_368_2129 : (pT M_368).find? (fun e => e.1 == 2129) = some (2129, .iaload, 0, 0) := (sk_111 2129 rfl).trans rfl
theorem te_368_2130 : (pT M_368).find? (fun e => e.1 == 2130) = some (2130, .invokevirtual 320, 361, 0) := (sk_111 2130 rfl).trans rfl
theorem te_368_2133 : (pT M_368).find? (fun e => e.1 == 2133) = some (2133, .istore 6, 0, 0) := (sk_111 2133 rfl).trans rfl
theorem te_368_2135 : (pT M_368).find? (fun e => e.1 == 2135) = some (2135, .goto 216, 0, 0) := (sk_111 2135 rfl).trans rfl
theorem te_368_2138 : (pT M_368).find? (fun e => e.1 == 2138) = some (2138, .aload_n 1, 0, 0) := (sk_111 2138 rfl).trans rfl
theorem te_368_2139 : (pT M_368).find? (fun e => e.1 == 2139) = some (2139, .aload_n 0, 0, 0) := (sk_111 2139 rfl).trans rfl
theorem te_368_2140 : (pT M_368).find? (fun e => e.1 == 2140) = some (2140, .iload 4, 0, 0) := (sk_111 2140 rfl).trans rfl
theorem te_368_2142 : (pT M_368).find? (fun e => e.1 == 2142) = some (2142, .iconst 1, 0, 0) := (sk_111 2142 rfl).trans rfl
theorem te_368_2143 : (pT M_368).find? (fun e => e.1 == 2143) = some (2143, .iadd, 0, 0) := (sk_111 2143 rfl).trans rfl
theorem te_368_2144 : (pT M_368).find? (fun e => e.1 == 2144) = some (2144, .iaload, 0, 0) := (sk_112 2144 rfl).trans rfl
theorem te_368_2145 : (pT M_368).find? (fun e => e.1 == 2145) = some (2145, .aload_n 0, 0, 0) := (sk_112 2145 rfl).trans rfl
theorem te_368_2146 : (pT M_368).find? (fun e => e.1 == 2146) = some (2146, .iload 4, 0, 0) := (sk_112 2146 rfl).trans rfl
theorem te_368_2148 : (pT M_368).find? (fun e => e.1 == 2148) = some (2148, .iconst 2, 0, 0) := (sk_112 2148 rfl).trans rfl
theorem te_368_2149 : (pT M_368).find? (fun e => e.1 == 2149) = some (2149, .iadd, 0, 0) := (sk_112 2149 rfl).trans rfl
theorem te_368_2150 : (pT M_368).find? (fun e => e.1 == 2150) = some (2150, .iaload, 0, 0) := (sk_112 2150 rfl).trans rfl
theorem te_368_2151 : (pT M_368).find? (fun e => e.1 == 2151) = some (2151, .aload_n 3, 0, 0) := (sk_112 2151 rfl).trans rfl
theorem te_368_2152 : (pT M_368).find? (fun e => e.1 == 2152) = some (2152, .invokestatic 321, 209, 8) := (sk_112 2152 rfl).trans rfl
theorem te_368_2155 : (pT M_368).find? (fun e => e.1 == 2155) = some (2155, .istore 5, 0, 0) := (sk_112 2155 rfl).trans rfl
theorem te_368_2157 : (pT M_368).find? (fun e => e.1 == 2157) = some (2157, .aload_n 2, 0, 0) := (sk_112 2157 rfl).trans rfl
theorem te_368_2158 : (pT M_368).find? (fun e => e.1 == 2158) = some (2158, .aload_n 0, 0, 0) := (sk_112 2158 rfl).trans rfl
theorem te_368_2159 : (pT M_368).find? (fun e => e.1 == 2159) = some (2159, .iload 4, 0, 0) := (sk_112 2159 rfl).trans rfl
theorem te_368_2161 : (pT M_368).find? (fun e => e.1 == 2161) = some (2161, .iconst 1, 0, 0) := (sk_113 2161 rfl).trans rfl
theorem te_368_2162 : (pT M_368).find? (fun e => e.1 == 2162) = some (2162, .iadd, 0, 0) := (sk_113 2162 rfl).trans rfl
theorem te_368_2163 : (pT M_368).find? (fun e => e.1 == 2163) = some (2163, .iaload, 0, 0) := (sk_113 2163 rfl).trans rfl
theorem te_368_2164 : (pT M_368).find? (fun e => e.1 == 2164) = some (2164, .aload_n 0, 0, 0) := (sk_113 2164 rfl).trans rfl
theorem te_368_2165 : (pT M_368).find? (fun e => e.1 == 2165) = some (2165, .iload 4, 0, 0) := (sk_113 2165 rfl).trans rfl
theorem te_368_2167 : (pT M_368).find? (fun e => e.1 == 2167) = some (2167, .iconst 2, 0, 0) := (sk_113 2167 rfl).trans rfl
theorem te_368_2168 : (pT M_368).find? (fun e => e.1 == 2168) = some (2168, .iadd, 0, 0) := (sk_113 2168 rfl).trans rfl
theorem te_368_2169 : (pT M_368).find? (fun e => e.1 == 2169) = some (2169, .iaload, 0, 0) := (sk_113 2169 rfl).trans rfl
theorem te_368_2170 : (pT M_368).find? (fun e => e.1 == 2170) = some (2170, .invokevirtual 323, 362, 0) := (sk_113 2170 rfl).trans rfl
theorem te_368_2173 : (pT M_368).find? (fun e => e.1 == 2173) = some (2173, .istore 6, 0, 0) := (sk_113 2173 rfl).trans rfl
theorem te_368_2175 : (pT M_368).find? (fun e => e.1 == 2175) = some (2175, .goto 176, 0, 0) := (sk_113 2175 rfl).trans rfl
theorem te_368_2178 : (pT M_368).find? (fun e => e.1 == 2178) = some (2178, .aload_n 1, 0, 0) := (sk_113 2178 rfl).trans rfl
theorem te_368_2179 : (pT M_368).find? (fun e => e.1 == 2179) = some (2179, .aload_n 0, 0, 0) := (sk_114 2179 rfl).trans rfl
theorem te_368_2180 : (pT M_368).find? (fun e => e.1 == 2180) = some (2180, .iload 4, 0, 0) := (sk_114 2180 rfl).trans rfl
theorem te_368_2182 : (pT M_368).find? (fun e => e.1 == 2182) = some (2182, .iconst 1, 0, 0) := (sk_114 2182 rfl).trans rfl
theorem te_368_2183 : (pT M_368).find? (fun e => e.1 == 2183) = some (2183, .iadd, 0, 0) := (sk_114 2183 rfl).trans rfl
theorem te_368_2184 : (pT M_368).find? (fun e => e.1 == 2184) = some (2184, .iaload, 0, 0) := (sk_114 2184 rfl).trans rfl
theorem te_368_2185 : (pT M_368).find? (fun e => e.1 == 2185) = some (2185, .aload_n 0, 0, 0) := (sk_114 2185 rfl).trans rfl
theorem te_368_2186 : (pT M_368).find? (fun e => e.1 == 2186) = some (2186, .iload 4, 0, 0) := (sk_114 2186 rfl).trans rfl
theorem te_368_2188 : (pT M_368).find? (fun e => e.1 == 2188) = some (2188, .iconst 2, 0, 0) := (sk_114 2188 rfl).trans rfl
theorem te_368_2189 : (pT M_368).find? (fun e => e.1 == 2189) = some (2189, .iadd, 0, 0) := (sk_114 2189 rfl).trans rfl
theorem te_368_2190 : (pT M_368).find? (fun e => e.1 == 2190) = some (2190, .iaload, 0, 0) := (sk_114 2190 rfl).trans rfl
theorem te_368_2191 : (pT M_368).find? (fun e => e.1 == 2191) = some (2191, .aload_n 0, 0, 0) := (sk_114 2191 rfl).trans rfl
theorem te_368_2192 : (pT M_368).find? (fun e => e.1 == 2192) = some (2192, .iload 4, 0, 0) := (sk_114 2192 rfl).trans rfl
theorem te_368_2194 : (pT M_368).find? (fun e => e.1 == 2194) = some (2194, .iconst 3, 0, 0) := (sk_115 2194 rfl).trans rfl
theorem te_368_2195 : (pT M_368).find? (fun e => e.1 == 2195) = some (2195, .iadd, 0, 0) := (sk_115 2195 rfl).trans rfl
theorem te_368_2196 : (pT M_368).find? (fun e => e.1 == 2196) = some (2196, .iaload, 0, 0) := (sk_115 2196 rfl).trans rfl
theorem te_368_2197 : (pT M_368).find? (fun e => e.1 == 2197) = some (2197, .aload_n 0, 0, 0) := (sk_115 2197 rfl).trans rfl
theorem te_368_2198 : (pT M_368).find? (fun e => e.1 == 2198) = some (2198, .iload 4, 0, 0) := (sk_115 2198 rfl).trans rfl
theorem te_368_2200 : (pT M_368).find? (fun e => e.1 == 2200) = some (2200, .iconst 4, 0, 0) := (sk_115 2200 rfl).trans rfl
theorem te_368_2201 : (pT M_368).find? (fun e => e.1 == 2201) = some (2201, .iadd, 0, 0) := (sk_115 2201 rfl).trans rfl
theorem te_368_2202 : (pT M_368).find? (fun e => e.1 == 2202) = some (2202, .iaload, 0, 0) := (sk_115 2202 rfl).trans rfl
theorem te_368_2203 : (pT M_368).find? (fun e => e.1 == 2203) = some (2203, .aload_n 3, 0, 0) := (sk_115 2203 rfl).trans rfl
theorem te_368_2204 : (pT M_368).find? (fun e => e.1 == 2204) = some (2204, .invokestatic 324, 213, 8) := (sk_115 2204 rfl).trans rfl
theorem te_368_2207 : (pT M_368).find? (fun e => e.1 == 2207) = some (2207, .istore 5, 0, 0) := (sk_115 2207 rfl).trans rfl
theorem te_368_2209 : (pT M_368).find? (fun e => e.1 == 2209) = some (2209, .aload_n 2, 0, 0) := (sk_115 2209 rfl).trans rfl
theorem te_368_2210 : (pT M_368).find? (fun e => e.1 == 2210) = some (2210, .aload_n 0, 0, 0) := (sk_116 2210 rfl).trans rfl
theorem te_368_2211 : (pT M_368).find? (fun e => e.1 == 2211) = some (2211, .iload 4, 0, 0) := (sk_116 2211 rfl).trans rfl
theorem te_368_2213 : (pT M_368).find? (fun e => e.1 == 2213) = some (2213, .iconst 1, 0, 0) := (sk_116 2213 rfl).trans rfl
theorem te_368_2214 : (pT M_368).find? (fun e => e.1 == 2214) = some (2214, .iadd, 0, 0) := (sk_116 2214 rfl).trans rfl
theorem te_368_2215 : (pT M_368).find? (fun e => e.1 == 2215) = some (2215, .iaload, 0, 0) := (sk_116 2215 rfl).trans rfl
theorem te_368_2216 : (pT M_368).find? (fun e => e.1 == 2216) = some (2216, .aload_n 0, 0, 0) := (sk_116 2216 rfl).trans rfl
theorem te_368_2217 : (pT M_368).find? (fun e => e.1 == 2217) = some (2217, .iload 4, 0, 0) := (sk_116 2217 rfl).trans rfl
theorem te_368_2219 : (pT M_368).find? (fun e => e.1 == 2219) = some (2219, .iconst 2, 0, 0) := (sk_116 2219 rfl).trans rfl
theorem te_368_2220 : (pT M_368).find? (fun e => e.1 == 2220) = some (2220, .iadd, 0, 0) := (sk_116 2220 rfl).trans rfl
theorem te_368_2221 : (pT M_368).find? (fun e => e.1 == 2221) = some (2221, .iaload, 0, 0) := (sk_116 2221 rfl).trans rfl
theorem te_368_2222 : (pT M_368).find? (fun e => e.1 == 2222) = some (2222, .aload_n 0, 0, 0) := (sk_116 2222 rfl).trans rfl
theorem te_368_2223 : (pT M_368).find? (fun e => e.1 == 2223) = some (2223, .iload 4, 0, 0) := (sk_116 2223 rfl).trans rfl
theorem te_368_2225 : (pT M_368).find? (fun e => e.1 == 2225) = some (2225, .iconst 3, 0, 0) := (sk_117 2225 rfl).trans rfl
theorem te_368_2226 : (pT M_368).find? (fun e => e.1 == 2226) = some (2226, .iadd, 0, 0) := (sk_117 2226 rfl).trans rfl
theorem te_368_2227 : (pT M_368).find? (fun e => e.1 == 2227) = some (2227, .iaload, 0, 0) := (sk_117 2227 rfl).trans rfl
theorem te_368_2228 : (pT M_368).find? (fun e => e.1 == 2228) = some (2228, .aload_n 0, 0, 0) := (sk_117 2228 rfl).trans rfl
theorem te_368_2229 : (pT M_368).find? (fun e => e.1 == 2229) = some (2229, .iload 4, 0, 0) := (sk_117 2229 rfl).trans rfl
theorem te_368_2231 : (pT M_368).find? (fun e => e.1 == 2231) = some (2231, .iconst 4, 0, 0) := (sk_117 2231 rfl).trans rfl
theorem te_368_2232 : (pT M_368).find? (fun e => e.1 == 2232) = some (2232, .iadd, 0, 0) := (sk_117 2232 rfl).trans rfl
theorem te_368_2233 : (pT M_368).find? (fun e => e.1 == 2233) = some (2233, .iaload, 0, 0) := (sk_117 2233 rfl).trans rfl
theorem te_368_2234 : (pT M_368).find? (fun e => e.1 == 2234) = some (2234, .invokevirtual 326, 364, 0) := (sk_117 2234 rfl).trans rfl
theorem te_368_2237 : (pT M_368).find? (fun e => e.1 == 2237) = some (2237, .istore 6, 0, 0) := (sk_117 2237 rfl).trans rfl
theorem te_368_2239 : (pT M_368).find? (fun e => e.1 == 2239) = some (2239, .goto 112, 0, 0) := (sk_117 2239 rfl).trans rfl
theorem te_368_2242 : (pT M_368).find? (fun e => e.1 == 2242) = some (2242, .aload_n 1, 0, 0) := (sk_117 2242 rfl).trans rfl
theorem te_368_2243 : (pT M_368).find? (fun e => e.1 == 2243) = some (2243, .aload_n 0, 0, 0) := (sk_118 2243 rfl).trans rfl
theorem te_368_2244 : (pT M_368).find? (fun e => e.1 == 2244) = some (2244, .iload 4, 0, 0) := (sk_118 2244 rfl).trans rfl
theorem te_368_2246 : (pT M_368).find? (fun e => e.1 == 2246) = some (2246, .iconst 1, 0, 0) := (sk_118 2246 rfl).trans rfl
theorem te_368_2247 : (pT M_368).find? (fun e => e.1 == 2247) = some (2247, .iadd, 0, 0) := (sk_118 2247 rfl).trans rfl
theorem te_368_2248 : (pT M_368).find? (fun e => e.1 == 2248) = some (2248, .iaload, 0, 0) := (sk_118 2248 rfl).trans rfl
theorem te_368_2249 : (pT M_368).find? (fun e => e.1 == 2249) = some (2249, .aload_n 3, 0, 0) := (sk_118 2249 rfl).trans rfl
theorem te_368_2250 : (pT M_368).find? (fun e => e.1 == 2250) = some (2250, .invokestatic 327, 218, 8) := (sk_118 2250 rfl).trans rfl
theorem te_368_2253 : (pT M_368).find? (fun e => e.1 == 2253) = some (2253, .istore 5, 0, 0) := (sk_118 2253 rfl).trans rfl
theorem te_368_2255 : (pT M_368).find? (fun e => e.1 == 2255) = some (2255, .aload_n 2, 0, 0) := (sk_118 2255 rfl).trans rfl
theorem te_368_2256 : (pT M_368).find? (fun e => e.1 == 2256) = some (2256, .aload_n 0, 0, 0) := (sk_118 2256 rfl).trans rfl
theorem te_368_2257 : (pT M_368).find? (fun e => e.1 == 2257) = some (2257, .iload 4, 0, 0) := (sk_118 2257 rfl).trans rfl
theorem te_368_2259 : (pT M_368).find? (fun e => e.1 == 2259) = some (2259, .iconst 1, 0, 0) := (sk_118 2259 rfl).trans rfl
theorem te_368_2260 : (pT M_368).find? (fun e => e.1 == 2260) = some (2260, .iadd, 0, 0) := (sk_119 2260 rfl).trans rfl
theorem te_368_2261 : (pT M_368).find? (fun e => e.1 == 2261) = some (2261, .iaload, 0, 0) := (sk_119 2261 rfl).trans rfl
theorem te_368_2262 : (pT M_368).find? (fun e => e.1 == 2262) = some (2262, .invokevirtual 329, 336, 0) := (sk_119 2262 rfl).trans rfl
theorem te_368_2265 : (pT M_368).find? (fun e => e.1 == 2265) = some (2265, .istore 6, 0, 0) := (sk_119 2265 rfl).trans rfl
theorem te_368_2267 : (pT M_368).find? (fun e => e.1 == 2267) = some (2267, .goto 84, 0, 0) := (sk_119 2267 rfl).trans rfl
theorem te_368_2270 : (pT M_368).find? (fun e => e.1 == 2270) = some (2270, .aload_n 1, 0, 0) := (sk_119 2270 rfl).trans rfl
theorem te_368_2271 : (pT M_368).find? (fun e => e.1 == 2271) = some (2271, .aload_n 0, 0, 0) := (sk_119 2271 rfl).trans rfl
theorem te_368_2272 : (pT M_368).find? (fun e => e.1 == 2272) = some (2272, .iload 4, 0, 0) := (sk_119 2272 rfl).trans rfl
theorem te_368_2274 : (pT M_368).find? (fun e => e.1 == 2274) = some (2274, .iconst 1, 0, 0) := (sk_119 2274 rfl).trans rfl
theorem te_368_2275 : (pT M_368).find? (fun e => e.1 == 2275) = some (2275, .iadd, 0, 0) := (sk_119 2275 rfl).trans rfl
theorem te_368_2276 : (pT M_368).find? (fun e => e.1 == 2276) = some (2276, .iaload, 0, 0) := (sk_119 2276 rfl).trans rfl
theorem te_368_2277 : (pT M_368).find? (fun e => e.1 == 2277) = some (2277, .aload_n 3, 0, 0) := (sk_119 2277 rfl).trans rfl
theorem te_368_2278 : (pT M_368).find? (fun e => e.1 == 2278) = some (2278, .invokestatic 330, 220, 8) := (sk_120 2278 rfl).trans rfl
theorem te_368_2281 : (pT M_368).find? (fun e => e.1 == 2281) = some (2281, .istore 5, 0, 0) := (sk_120 2281 rfl).trans rfl
theorem te_368_2283 : (pT M_368).find? (fun e => e.1 == 2283) = some (2283, .aload_n 2, 0, 0) := (sk_120 2283 rfl).trans rfl
theorem te_368_2284 : (pT M_368).find? (fun e => e.1 == 2284) = some (2284, .aload_n 0, 0, 0) := (sk_120 2284 rfl).trans rfl
theorem te_368_2285 : (pT M_368).find? (fun e => e.1 == 2285) = some (2285, .iload 4, 0, 0) := (sk_120 2285 rfl).trans rfl
theorem te_368_2287 : (pT M_368).find? (fun e => e.1 == 2287) = some (2287, .iconst 1, 0, 0) := (sk_120 2287 rfl).trans rfl
theorem te_368_2288 : (pT M_368).find? (fun e => e.1 == 2288) = some (2288, .iadd, 0, 0) := (sk_120 2288 rfl).trans rfl
theorem te_368_2289 : (pT M_368).find? (fun e => e.1 == 2289) = some (2289, .iaload, 0, 0) := (sk_120 2289 rfl).trans rfl
theorem te_368_2290 : (pT M_368).find? (fun e => e.1 == 2290) = some (2290, .invokevirtual 332, 357, 0) := (sk_120 2290 rfl).trans rfl
theorem te_368_2293 : (pT M_368).find? (fun e => e.1 == 2293) = some (2293, .istore 6, 0, 0) := (sk_120 2293 rfl).trans rfl
theorem te_368_2295 : (pT M_368).find? (fun e => e.1 == 2295) = some (2295, .goto 56, 0, 0) := (sk_120 2295 rfl).trans rfl
theorem lc_34 {S : Nat × (Nat → Int32)} {lv : LV} {h : PH} {c s : Nat} {i : Int32} (hS : S.1 ≤ 3072) (hl : LwS lv i) (hi : 0 ≤ i.toInt ∧ i.toInt + 5 < S.1) (hL : LR h) (hc : c + 8 ≤ 601024) (hs : s + 48 ≤ 7293033) (Nx : ∀ lv' h' c' s', LwS lv' i → LR h' → c' ≤ c + 8 → s' ≤ s + 48 → Vx (Ex S 24) S M_368 [] Q1 2351 lv' [] h' c' s') : Vx (Ex S 24) S M_368 [] Q1 1818 lv [] h c s := by
  have hC := Ex.mono S 24
  refine Vx.go hC te_368_1818 ?_
  refine ⟨_, hl.2.1, ⟨0, Or.inl rfl⟩, ?_⟩
  refine sc_load hC (k := 1) hl te_368_1819 te_368_1820 te_368_1822 te_368_1823 te_368_1824 (sc_in hS hi (by decide)) ?_
  refine Vx.go hC te_368_1825 ?_
  refine ⟨by decide, fun q => ?_, fun q => ?_⟩
  · show Vx (Ex S 24) S M_368 [] Q1 1832 lv [.ref 0] h c s
    refine Vx.go hC te_368_1832 ?_
    refine Vx.go hC te_368_1833 ?_
    refine ⟨_, hl.2.2.2.1, ⟨173, Or.inl rfl⟩, ?_⟩
    refine Vx.go hC te_368_1834 ?_
    refine Or.inr ⟨by decide, ?_⟩
    refine p_call_mk (av := [.ref 0, .int (Int32.ofInt 0), .ref 173]) (rest := []) mt_187 rfl (by decide) (show c + 1 ≤ 601024 by omega) (show s + 6 ≤ 7293033 by omega) (fun q => by cases q) ?_
    refine g_187 (n := 6) hL (fun r3 h1 hL2 => ?_)
    show Vx (Ex S 24) S M_368 [] Q1 1837 lv [.int r3] h1 (c + 1) (s + 6)
    refine Vx.go hC te_368_1837 ?_
    refine ⟨by decide, ?_⟩
    have hl4 := LwS.st (j := 5) (v := .int r3) (by omega) hl
    show Vx (Ex S 24) S M_368 [] Q1 1839 (px_s1 lv 5 (.int r3)) [] h1 (c + 1) (s + 6)
    refine Vx.go hC te_368_1839 ?_
    refine ⟨_, hl4.2.2.1, ⟨143, Or.inl rfl⟩, ?_⟩
    refine sc_load hC (k := 1) hl4 te_368_1840 te_368_1841 te_368_1843 te_368_1844 te_368_1845 (sc_in hS hi (by decide)) ?_
    refine Vx.go hC te_368_1846 ?_
    refine ⟨by decide, fun q => ?_, fun q => ?_⟩
    · show Vx (Ex S 24) S M_368 [] Q1 1853 (px_s1 lv 5 (.int r3)) [.ref 143] h1 (c + 1) (s + 6)
      refine Vx.go hC te_368_1853 ?_
      refine Vx.go hC te_368_1854 ?_
      obtain ⟨gs8, gs8g⟩ := hL2.obj (A := 143) rfl
      have hcall9 := ref_call (S := S) (n := 24) (μ := 343) (args := [.inr 143, .inl ((Int32.ofInt 0) : Int32).toInt]) (h := h1) (fun v hv => by simp only [List.mem_cons, List.not_mem_nil, or_false] at hv; rcases hv with rfl | rfl <;> first | trivial | exact wiI _) hL2 (fun mem hr => f_343 hr (fun r m' a b => ⟨a, b⟩))
      simp only [List.map_cons, List.map_nil, wv, Int32.ofInt_toInt] at hcall9
      refine p_call_mk (av := [.ref 143, .int (Int32.ofInt 0)]) (rest := []) mt_343 rfl (by decide) (show (c + 1) + 0 ≤ 601024 by omega) (show (s + 6) + 0 ≤ 7293033 by omega) (fun _ => ⟨143, gs8, rfl, gs8g⟩) ?_
      refine hC _ _ _ _ _ ?_ hcall9
      rintro _ h5 ⟨hL6, r7, rfl⟩
      show Vx (Ex S 24) S M_368 [] Q1 1857 (px_s1 lv 5 (.int r3)) [.int r7] h5 (c + 1) (s + 6)
      refine Vx.go hC te_368_1857 ?_
      refine ⟨by decide, ?_⟩
      have hl10 := LwS.st (j := 6) (v := .int r7) (by omega) hl4
      show Vx (Ex S 24) S M_368 [] Q1 1859 (px_s1 (px_s1 lv 5 (.int r3)) 6 (.int r7)) [] h5 (c + 1) (s + 6)
      refine Vx.go hC te_368_1859 ?_
      refine ⟨by decide, ?_⟩
      exact Nx _ _ _ _ hl10 hL6 (by omega) (by omega)
    · show Vx (Ex S 24) S M_368 [] Q1 1849 (px_s1 lv 5 (.int r3)) [.ref 143] h1 (c + 1) (s + 6)
      refine Vx.go hC te_368_1849 ?_
      refine Vx.go hC te_368_1850 ?_
      refine ⟨by decide, ?_⟩
      show Vx (Ex S 24) S M_368 [] Q1 1854 (px_s1 lv 5 (.int r3)) [.int (Int32.ofInt 1), .ref 143] h1 (c + 1) (s + 6)
      refine Vx.go hC te_368_1854 ?_
      obtain ⟨gs14, gs14g⟩ := hL2.obj (A := 143) rfl
      have hcall15 := ref_call (S := S) (n := 24) (μ := 343) (args := [.inr 143, .inl ((Int32.ofInt 1) : Int32).toInt]) (h := h1) (fun v hv => by simp only [List.mem_cons, List.not_mem_nil, or_false] at hv; rcases hv with rfl | rfl <;> first | trivial | exact wiI _) hL2 (fun mem hr => f_343 hr (fun r m' a b => ⟨a, b⟩))
      simp only [List.map_cons, List.map_nil, wv, Int32.ofInt_toInt] at hcall15
      refine p_call_mk (av := [.ref 143, .int (Int32.ofInt 1)]) (rest := []) mt_343 rfl (by decide) (show (c + 1) + 0 ≤ 601024 by omega) (show (s + 6) + 0 ≤ 7293033 by omega) (fun _ => ⟨143, gs14, rfl, gs14g⟩) ?_
      refine hC _ _ _ _ _ ?_ hcall15
      rintro _ h11 ⟨hL12, r13, rfl⟩
      show Vx (Ex S 24) S M_368 [] Q1 1857 (px_s1 lv 5 (.int r3)) [.int r13] h11 (c + 1) (s + 6)
      refine Vx.go hC te_368_1857 ?_
      refine ⟨by decide, ?_⟩
      have hl16 := LwS.st (j := 6) (v := .int r13) (by omega) hl4
      show Vx (Ex S 24) S M_368 [] Q1 1859 (px_s1 (px_s1 lv 5 (.int r3)) 6 (.int r13)) [] h11 (c + 1) (s + 6)
      refine Vx.go hC te_368_1859 ?_
      refine ⟨by decide, ?_⟩
      exact Nx _ _ _ _ hl16 hL12 (by omega) (by omega)
  · show Vx (Ex S 24) S M_368 [] Q1 1828 lv [.ref 0] h c s
    refine Vx.go hC te_368_1828 ?_
    refine Vx.go hC te_368_1829 ?_
    refine ⟨by decide, ?_⟩
    show Vx (Ex S 24) S M_368 [] Q1 1833 lv [.int (Int32.ofInt 1), .ref 0] h c s
    refine Vx.go hC te_368_1833 ?_
    refine ⟨_, hl.2.2.2.1, ⟨173, Or.inl rfl⟩, ?_⟩
    refine Vx.go hC te_368_1834 ?_
    refine Or.inr ⟨by decide, ?_⟩
    refine p_call_mk (av := [.ref 0, .int (Int32.ofInt 1), .ref 173]) (rest := []) mt_187 rfl (by decide) (show c + 1 ≤ 601024 by omega) (show s + 6 ≤ 7293033 by omega) (fun q => by cases q) ?_
    refine g_187 (n := 6) hL (fun r19 h17 hL18 => ?_)
    show Vx (Ex S 24) S M_368 [] Q1 1837 lv [.int r19] h17 (c + 1) (s + 6)
    refine Vx.go hC te_368_1837 ?_
    refine ⟨by decide, ?_⟩
    have hl20 := LwS.st (j := 5) (v := .int r19) (by omega) hl
    show Vx (Ex S 24) S M_368 [] Q1 1839 (px_s1 lv 5 (.int r19)) [] h17 (c + 1) (s + 6)
    refine Vx.go hC te_368_1839 ?_
    refine ⟨_, hl20.2.2.1, ⟨143, Or.inl rfl⟩, ?_⟩
    refine sc_load hC (k := 1) hl20 te_368_1840 te_368_1841 te_368_1843 te_368_1844 te_368_1845 (sc_in hS hi (by decide)) ?_
    refine Vx.go hC te_368_1846 ?_
    refine ⟨by decide, fun q => ?_, fun q => ?_⟩
    · show Vx (Ex S 24) S M_368 [] Q1 1853 (px_s1 lv 5 (.int r19)) [.ref 143] h17 (c + 1) (s + 6)
      refine Vx.go hC te_368_1853 ?_
      refine Vx.go hC te_368_1854 ?_
      obtain ⟨gs24, gs24g⟩ := hL18.obj (A := 143) rfl
      have hcall25 := ref_call (S := S) (n := 24) (μ := 343) (args := [.inr 143, .inl ((Int32.ofInt 0) : Int32).toInt]) (h := h17) (fun v hv => by simp only [List.mem_cons, List.not_mem_nil, or_false] at hv; rcases hv with rfl | rfl <;> first | trivial | exact wiI _) hL18 (fun mem hr => f_343 hr (fun r m' a b => ⟨a, b⟩))
      simp only [List.map_cons, List.map_nil, wv, Int32.ofInt_toInt] at hcall25
      refine p_call_mk (av := [.ref 143, .int (Int32.ofInt 0)]) (rest := []) mt_343 rfl (by decide) (show (c + 1) + 0 ≤ 601024 by omega) (show (s + 6) + 0 ≤ 7293033 by omega) (fun _ => ⟨143, gs24, rfl, gs24g⟩) ?_
      refine hC _ _ _ _ _ ?_ hcall25
      rintro _ h21 ⟨hL22, r23, rfl⟩
      show Vx (Ex S 24) S M_368 [] Q1 1857 (px_s1 lv 5 (.int r19)) [.int r23] h21 (c + 1) (s + 6)
      refine Vx.go hC te_368_1857 ?_
      refine ⟨by decide, ?_⟩
      have hl26 := LwS.st (j := 6) (v := .int r23) (by omega) hl20
      show Vx (Ex S 24) S M_368 [] Q1 1859 (px_s1 (px_s1 lv 5 (.int r19)) 6 (.int r23)) [] h21 (c + 1) (s + 6)
      refine Vx.go hC te_368_1859 ?_
      refine ⟨by decide, ?_⟩
      exact Nx _ _ _ _ hl26 hL22 (by omega) (by omega)
    · show Vx (Ex S 24) S M_368 [] Q1 1849 (px_s1 lv 5 (.int r19)) [.ref 143] h17 (c + 1) (s + 6)
      refine Vx.go hC te_368_1849 ?_
      refine Vx.go hC te_368_1850 ?_
      refine ⟨by decide, ?_⟩
      show Vx (Ex S 24) S M_368 [] Q1 1854 (px_s1 lv 5 (.int r19)) [.int (Int32.ofInt 1), .ref 143] h17 (c + 1) (s + 6)
      refine Vx.go hC te_368_1854 ?_
      obtain ⟨gs30, gs30g⟩ := hL18.obj (A := 143) rfl
      have hcall31 := ref_call (S := S) (n := 24) (μ := 343) (args := [.inr 143, .inl ((Int32.ofInt 1) : Int32).toInt]) (h := h17) (fun v hv => by simp only [List.mem_cons, List.not_mem_nil, or_false] at hv; rcases hv with rfl | rfl <;> first | trivial | exact wiI _) hL18 (fun mem hr => f_343 hr (fun r m' a b => ⟨a, b⟩))
      simp only [List.map_cons, List.map_nil, wv, Int32.ofInt_toInt] at hcall31
      refine p_call_mk (av := [.ref 143, .int (Int32.ofInt 1)]) (rest := []) mt_343 rfl (by decide) (show (c + 1) + 0 ≤ 601024 by omega) (show (s + 6) + 0 ≤ 7293033 by omega) (fun _ => ⟨143, gs30, rfl, gs30g⟩) ?_
      refine hC _ _ _ _ _ ?_ hcall31
      rintro _ h27 ⟨hL28, r29, rfl⟩
      show Vx (Ex S 24) S M_368 [] Q1 1857 (px_s1 lv 5 (.int r19)) [.int r29] h27 (c + 1) (s + 6)
      refine Vx.go hC te_368_1857 ?_
      refine ⟨by decide, ?_⟩
      have hl32 := LwS.st (j := 6) (v := .int r29) (by omega) hl20
      show Vx (Ex S 24) S M_368 [] Q1 1859 (px_s1 (px_s1 lv 5 (.int r19)) 6 (.int r29)) [] h27 (c + 1) (s + 6)
      refine Vx.go hC te_368_1859 ?_
      refine ⟨by decide, ?_⟩
      exact Nx _ _ _ _ hl32 hL28 (by omega) (by omega)
theorem lc_35 {S : Nat × (Nat → Int32)} {lv : LV} {h : PH} {c s : Nat} {i : Int32} (hS : S.1 ≤ 3072) (hl : LwS lv i) (hi : 0 ≤ i.toInt ∧ i.toInt + 5 < S.1) (hL : LR h) (hc : c + 8 ≤ 601024) (hs : s + 48 ≤ 7293033) (Nx : ∀ lv' h' c' s', LwS lv' i → LR h' → c' ≤ c + 8 → s' ≤ s + 48 → Vx (Ex S 24) S M_368 [] Q1 2351 lv' [] h' c' s') : Vx (Ex S 24) S M_368 [] Q1 1862 lv [] h c s := by
  have hC := Ex.mono S 24
  refine Vx.go hC te_368_1862 ?_
  refine ⟨_, hl.2.1, ⟨0, Or.inl rfl⟩, ?_⟩
  refine Vx.go hC te_368_1863 ?_
  refine ⟨_, hl.2.2.2.1, ⟨173, Or.inl rfl⟩, ?_⟩
  refine Vx.go hC te_368_1864 ?_
  refine Or.inr ⟨by decide, ?_⟩
  refine p_call_mk (av := [.ref 0, .ref 173]) (rest := []) mt_189 rfl (by decide) (show c + 1 ≤ 601024 by omega) (show s + 6 ≤ 7293033 by omega) (fun q => by cases q) ?_
  refine g_189 (n := 6) hL (fun r3 h1 hL2 => ?_)
  show Vx (Ex S 24) S M_368 [] Q1 1867 lv [.int r3] h1 (c + 1) (s + 6)
  refine Vx.go hC te_368_1867 ?_
  refine ⟨by decide, ?_⟩
  have hl4 := LwS.st (j := 5) (v := .int r3) (by omega) hl
  show Vx (Ex S 24) S M_368 [] Q1 1869 (px_s1 lv 5 (.int r3)) [] h1 (c + 1) (s + 6)
  refine Vx.go hC te_368_1869 ?_
  refine ⟨_, hl4.2.2.1, ⟨143, Or.inl rfl⟩, ?_⟩
  refine Vx.go hC te_368_1870 ?_
  obtain ⟨gs8, gs8g⟩ := hL2.obj (A := 143) rfl
  have hcall9 := ref_call (S := S) (n := 24) (μ := 348) (args := [.inr 143]) (h := h1) (fun v hv => by simp only [List.mem_cons, List.not_mem_nil, or_false] at hv; rw [hv]; trivial) hL2 (fun mem hr => f_348 hr (fun r m' a b => ⟨a, b⟩))
  simp only [List.map_cons, List.map_nil, wv, Int32.ofInt_toInt] at hcall9
  refine p_call_mk (av := [.ref 143]) (rest := []) mt_348 rfl (by decide) (show (c + 1) + 0 ≤ 601024 by omega) (show (s + 6) + 0 ≤ 7293033 by omega) (fun _ => ⟨143, gs8, rfl, gs8g⟩) ?_
  refine hC _ _ _ _ _ ?_ hcall9
  rintro _ h5 ⟨hL6, r7, rfl⟩
  show Vx (Ex S 24) S M_368 [] Q1 1873 (px_s1 lv 5 (.int r3)) [.int r7] h5 (c + 1) (s + 6)
  refine Vx.go hC te_368_1873 ?_
  refine ⟨by decide, ?_⟩
  have hl10 := LwS.st (j := 6) (v := .int r7) (by omega) hl4
  show Vx (Ex S 24) S M_368 [] Q1 1875 (px_s1 (px_s1 lv 5 (.int r3)) 6 (.int r7)) [] h5 (c + 1) (s + 6)
  refine Vx.go hC te_368_1875 ?_
  refine ⟨by decide, ?_⟩
  exact Nx _ _ _ _ hl10 hL6 (by omega) (by omega)
theorem lc_36 {S : Nat × (Nat → Int32)} {lv : LV} {h : PH} {c s : Nat} {i : Int32} (hS : S.1 ≤ 3072) (hl : LwS lv i) (hi : 0 ≤ i.toInt ∧ i.toInt + 5 < S.1) (hL : LR h) (hc : c + 8 ≤ 601024) (hs : s + 48 ≤ 7293033) (Nx : ∀ lv' h' c' s', LwS lv' i → LR h' → c' ≤ c + 8 → s' ≤ s + 48 → Vx (Ex S 24) S M_368 [] Q1 2351 lv' [] h' c' s') : Vx (Ex S 24) S M_368 [] Q1 1878 lv [] h c s := by
  have hC := Ex.mono S 24
  refine Vx.go hC te_368_1878 ?_
  refine ⟨_, hl.2.1, ⟨0, Or.inl rfl⟩, ?_⟩
  refine sc_load hC (k := 1) hl te_368_1879 te_368_1880 te_368_1882 te_368_1883 te_368_1884 (sc_in hS hi (by decide)) ?_
  refine Vx.go hC te_368_1885 ?_
  refine ⟨_, hl.2.2.2.1, ⟨173, Or.inl rfl⟩, ?_⟩
  refine Vx.go hC te_368_1886 ?_
  refine Or.inr ⟨by decide, ?_⟩
  refine p_call_mk (av := [.ref 0, .int (S.2 (i + Int32.ofInt 1).toNatClampNeg), .ref 173]) (rest := []) mt_191 rfl (by decide) (show c + 2 ≤ 601024 by omega) (show s + 12 ≤ 7293033 by omega) (fun q => by cases q) ?_
  refine g_191 (n := 6) hL (fun r3 h1 hL2 => ?_)
  show Vx (Ex S 24) S M_368 [] Q1 1889 lv [.int r3] h1 (c + 2) (s + 12)
  refine Vx.go hC te_368_1889 ?_
  refine ⟨by decide, ?_⟩
  have hl4 := LwS.st (j := 5) (v := .int r3) (by omega) hl
  show Vx (Ex S 24) S M_368 [] Q1 1891 (px_s1 lv 5 (.int r3)) [] h1 (c + 2) (s + 12)
  refine Vx.go hC te_368_1891 ?_
  refine ⟨_, hl4.2.2.1, ⟨143, Or.inl rfl⟩, ?_⟩
  refine sc_load hC (k := 1) hl4 te_368_1892 te_368_1893 te_368_1895 te_368_1896 te_368_1897 (sc_in hS hi (by decide)) ?_
  refine Vx.go hC te_368_1898 ?_
  obtain ⟨gs8, gs8g⟩ := hL2.obj (A := 143) rfl
  have hcall9 := ref_call (S := S) (n := 24) (μ := 349) (args := [.inr 143, .inl ((S.2 (i + Int32.ofInt 1).toNatClampNeg) : Int32).toInt]) (h := h1) (fun v hv => by simp only [List.mem_cons, List.not_mem_nil, or_false] at hv; rcases hv with rfl | rfl <;> first | trivial | exact wiI _) hL2 (fun mem hr => f_349 hr (fun r m' a b => ⟨a, b⟩))
  simp only [List.map_cons, List.map_nil, wv, Int32.ofInt_toInt] at hcall9
  refine p_call_mk (av := [.ref 143, .int (S.2 (i + Int32.ofInt 1).toNatClampNeg)]) (rest := []) mt_349 rfl (by decide) (show (c + 2) + 0 ≤ 601024 by omega) (show (s + 12) + 0 ≤ 7293033 by omega) (fun _ => ⟨143, gs8, rfl, gs8g⟩) ?_
  refine hC _ _ _ _ _ ?_ hcall9
  rintro _ h5 ⟨hL6, r7, rfl⟩
  show Vx (Ex S 24) S M_368 [] Q1 1901 (px_s1 lv 5 (.int r3)) [.int r7] h5 (c + 2) (s + 12)
  refine Vx.go hC te_368_1901 ?_
  refine ⟨by decide, ?_⟩
  have hl10 := LwS.st (j := 6) (v := .int r7) (by omega) hl4
  show Vx (Ex S 24) S M_368 [] Q1 1903 (px_s1 (px_s1 lv 5 (.int r3)) 6 (.int r7)) [] h5 (c + 2) (s + 12)
  refine Vx.go hC te_368_1903 ?_
  refine ⟨by decide, ?_⟩
  exact Nx _ _ _ _ hl10 hL6 (by omega) (by omega)
theorem lc_37 {S : Nat × (Nat → Int32)} {lv : LV} {h : PH} {c s : Nat} {i : Int32} (hS : S.1 ≤ 3072) (hl : LwS lv i) (hi : 0 ≤ i.toInt ∧ i.toInt + 5 < S.1) (hL : LR h) (hc : c + 8 ≤ 601024) (hs : s + 48 ≤ 7293033) (Nx : ∀ lv' h' c' s', LwS lv' i → LR h' → c' ≤ c + 8 → s' ≤ s + 48 → Vx (Ex S 24) S M_368 [] Q1 2351 lv' [] h' c' s') : Vx (Ex S 24) S M_368 [] Q1 1906 lv [] h c s := by
  have hC := Ex.mono S 24
  refine Vx.go hC te_368_1906 ?_
  refine ⟨_, hl.2.1, ⟨0, Or.inl rfl⟩, ?_⟩
  refine Vx.go hC te_368_1907 ?_
  refine ⟨_, hl.2.2.2.1, ⟨173, Or.inl rfl⟩, ?_⟩
  refine Vx.go hC te_368_1908 ?_
  refine Or.inr ⟨by decide, ?_⟩
  refine p_call_mk (av := [.ref 0, .ref 173]) (rest := []) mt_193 rfl (by decide) (show c + 1 ≤ 601024 by omega) (show s + 6 ≤ 7293033 by omega) (fun q => by cases q) ?_
  refine g_193 (n := 6) hL (fun r3 h1 hL2 => ?_)
  show Vx (Ex S 24) S M_368 [] Q1 1911 lv [.int r3] h1 (c + 1) (s + 6)
  refine Vx.go hC te_368_1911 ?_
  refine ⟨by decide, ?_⟩
  have hl4 := LwS.st (j := 5) (v := .int r3) (by omega) hl
  show Vx (Ex S 24) S M_368 [] Q1 1913 (px_s1 lv 5 (.int r3)) [] h1 (c + 1) (s + 6)
  refine Vx.go hC te_368_1913 ?_
  refine ⟨_, hl4.2.2.1, ⟨143, Or.inl rfl⟩, ?_⟩
  refine Vx.go hC te_368_1914 ?_
  obtain ⟨gs8, gs8g⟩ := hL2.obj (A := 143) rfl
  have hcall9 := ref_call (S := S) (n := 24) (μ := 351) (args := [.inr 143]) (h := h1) (fun v hv => by simp only [List.mem_cons, List.not_mem_nil, or_false] at hv; rw [hv]; trivial) hL2 (fun mem hr => f_351 hr (fun r m' a b => ⟨a, b⟩))
  simp only [List.map_cons, List.map_nil, wv, Int32.ofInt_toInt] at hcall9
  refine p_call_mk (av := [.ref 143]) (rest := []) mt_351 rfl (by decide) (show (c + 1) + 0 ≤ 601024 by omega) (show (s + 6) + 0 ≤ 7293033 by omega) (fun _ => ⟨143, gs8, rfl, gs8g⟩) ?_
  refine hC _ _ _ _ _ ?_ hcall9
  rintro _ h5 ⟨hL6, r7, rfl⟩
  show Vx (Ex S 24) S M_368 [] Q1 1917 (px_s1 lv 5 (.int r3)) [.int r7] h5 (c + 1) (s + 6)
  refine Vx.go hC te_368_1917 ?_
  refine ⟨by decide, ?_⟩
  have hl10 := LwS.st (j := 6) (v := .int r7) (by omega) hl4
  show Vx (Ex S 24) S M_368 [] Q1 1919 (px_s1 (px_s1 lv 5 (.int r3)) 6 (.int r7)) [] h5 (c + 1) (s + 6)
  refine Vx.go hC te_368_1919 ?_
  refine ⟨by decide, ?_⟩
  exact Nx _ _ _ _ hl10 hL6 (by omega) (by omega)
theorem lc_38 {S : Nat × (Nat → Int32)} {lv : LV} {h : PH} {c s : Nat} {i : Int32} (hS : S.1 ≤ 3072) (hl : LwS lv i) (hi : 0 ≤ i.toInt ∧ i.toInt + 5 < S.1) (hL : LR h) (hc : c + 8 ≤ 601024) (hs : s + 48 ≤ 7293033) (Nx : ∀ lv' h' c' s', LwS lv' i → LR h' → c' ≤ c + 8 → s' ≤ s + 48 → Vx (Ex S 24) S M_368 [] Q1 2351 lv' [] h' c' s') : Vx (Ex S 24) S M_368 [] Q1 1922 lv [] h c s := by
  have hC := Ex.mono S 24
  refine Vx.go hC te_368_1922 ?_
  refine ⟨_, hl.2.1, ⟨0, Or.inl rfl⟩, ?_⟩
  refine sc_load hC (k := 1) hl te_368_1923 te_368_1924 te_368_1926 te_368_1927 te_368_1928 (sc_in hS hi (by decide)) ?_
  refine Vx.go hC te_368_1929 ?_
  refine ⟨_, hl.2.2.2.1, ⟨173, Or.inl rfl⟩, ?_⟩
  refine Vx.go hC te_368_1930 ?_
  refine Or.inr ⟨by decide, ?_⟩
  refine p_call_mk (av := [.ref 0, .int (S.2 (i + Int32.ofInt 1).toNatClampNeg), .ref 173]) (rest := []) mt_195 rfl (by decide) (show c + 3 ≤ 601024 by omega) (show s + 18 ≤ 7293033 by omega) (fun q => by cases q) ?_
  refine g_195 (n := 6) hL (fun r3 h1 hL2 => ?_)
  show Vx (Ex S 24) S M_368 [] Q1 1933 lv [.int r3] h1 (c + 3) (s + 18)
  refine Vx.go hC te_368_1933 ?_
  refine ⟨by decide, ?_⟩
  have hl4 := LwS.st (j := 5) (v := .int r3) (by omega) hl
  show Vx (Ex S 24) S M_368 [] Q1 1935 (px_s1 lv 5 (.int r3)) [] h1 (c + 3) (s + 18)
  refine Vx.go hC te_368_1935 ?_
  refine ⟨_, hl4.2.2.1, ⟨143, Or.inl rfl⟩, ?_⟩
  refine sc_load hC (k := 1) hl4 te_368_1936 te_368_1937 te_368_1939 te_368_1940 te_368_1941 (sc_in hS hi (by decide)) ?_
  refine Vx.go hC te_368_1942 ?_
  obtain ⟨gs8, gs8g⟩ := hL2.obj (A := 143) rfl
  have hcall9 := ref_call (S := S) (n := 24) (μ := 352) (args := [.inr 143, .inl ((S.2 (i + Int32.ofInt 1).toNatClampNeg) : Int32).toInt]) (h := h1) (fun v hv => by simp only [List.mem_cons, List.not_mem_nil, or_false] at hv; rcases hv with rfl | rfl <;> first | trivial | exact wiI _) hL2 (fun mem hr => f_352 hr (fun r m' a b => ⟨a, b⟩))
  simp only [List.map_cons, List.map_nil, wv, Int32.ofInt_toInt] at hcall9
  refine p_call_mk (av := [.ref 143, .int (S.2 (i + Int32.ofInt 1).toNatClampNeg)]) (rest := []) mt_352 rfl (by decide) (show (c + 3) + 0 ≤ 601024 by omega) (show (s + 18) + 0 ≤ 7293033 by omega) (fun _ => ⟨143, gs8, rfl, gs8g⟩) ?_
  refine hC _ _ _ _ _ ?_ hcall9
  rintro _ h5 ⟨hL6, r7, rfl⟩
  show Vx (Ex S 24) S M_368 [] Q1 1945 (px_s1 lv 5 (.int r3)) [.int r7] h5 (c + 3) (s + 18)
  refine Vx.go hC te_368_1945 ?_
  refine ⟨by decide, ?_⟩
  have hl10 := LwS.st (j := 6) (v := .int r7) (by omega) hl4
  show Vx (Ex S 24) S M_368 [] Q1 1947 (px_s1 (px_s1 lv 5 (.int r3)) 6 (.int r7)) [] h5 (c + 3) (s + 18)
  refine Vx.go hC te_368_1947 ?_
  refine ⟨by decide, ?_⟩
  exact Nx _ _ _ _ hl10 hL6 (by omega) (by omega)
theorem lc_39 {S : Nat × (Nat → Int32)} {lv : LV} {h : PH} {c s : Nat} {i : Int32} (hS : S.1 ≤ 3072) (hl : LwS lv i) (hi : 0 ≤ i.toInt ∧ i.toInt + 5 < S.1) (hL : LR h) (hc : c + 8 ≤ 601024) (hs : s + 48 ≤ 7293033) (Nx : ∀ lv' h' c' s', LwS lv' i → LR h' → c' ≤ c + 8 → s' ≤ s + 48 → Vx (Ex S 24) S M_368 [] Q1 2351 lv' [] h' c' s') : Vx (Ex S 24) S M_368 [] Q1 1950 lv [] h c s := by
  have hC := Ex.mono S 24
  refine Vx.go hC te_368_1950 ?_
  refine ⟨_, hl.2.1, ⟨0, Or.inl rfl⟩, ?_⟩
  refine sc_load hC (k := 1) hl te_368_1951 te_368_1952 te_368_1954 te_368_1955 te_368_1956 (sc_in hS hi (by decide)) ?_
  refine Vx.go hC te_368_1957 ?_
  refine ⟨_, hl.2.2.2.1, ⟨173, Or.inl rfl⟩, ?_⟩
  refine Vx.go hC te_368_1958 ?_
  refine Or.inr ⟨by decide, ?_⟩
  refine p_call_mk (av := [.ref 0, .int (S.2 (i + Int32.ofInt 1).toNatClampNeg), .ref 173]) (rest := []) mt_197 rfl (by decide) (show c + 2 ≤ 601024 by omega) (show s + 12 ≤ 7293033 by omega) (fun q => by cases q) ?_
  refine g_197 (n := 6) hL (fun r3 h1 hL2 => ?_)
  show Vx (Ex S 24) S M_368 [] Q1 1961 lv [.int r3] h1 (c + 2) (s + 12)
  refine Vx.go hC te_368_1961 ?_
  refine ⟨by decide, ?_⟩
  have hl4 := LwS.st (j := 5) (v := .int r3) (by omega) hl
  show Vx (Ex S 24) S M_368 [] Q1 1963 (px_s1 lv 5 (.int r3)) [] h1 (c + 2) (s + 12)
  refine Vx.go hC te_368_1963 ?_
  refine ⟨_, hl4.2.2.1, ⟨143, Or.inl rfl⟩, ?_⟩
  refine sc_load hC (k := 1) hl4 te_368_1964 te_368_1965 te_368_1967 te_368_1968 te_368_1969 (sc_in hS hi (by decide)) ?_
  refine Vx.go hC te_368_1970 ?_
  obtain ⟨gs8, gs8g⟩ := hL2.obj (A := 143) rfl
  have hcall9 := ref_call (S := S) (n := 24) (μ := 355) (args := [.inr 143, .inl ((S.2 (i + Int32.ofInt 1).toNatClampNeg) : Int32).toInt]) (h := h1) (fun v hv => by simp only [List.mem_cons, List.not_mem_nil, or_false] at hv; rcases hv with rfl | rfl <;> first | trivial | exact wiI _) hL2 (fun mem hr => f_355 hr (fun r m' a b => ⟨a, b⟩))
  simp only [List.map_cons, List.map_nil, wv, Int32.ofInt_toInt] at hcall9
  refine p_call_mk (av := [.ref 143, .int (S.2 (i + Int32.ofInt 1).toNatClampNeg)]) (rest := []) mt_355 rfl (by decide) (show (c + 2) + 0 ≤ 601024 by omega) (show (s + 12) + 0 ≤ 7293033 by omega) (fun _ => ⟨143, gs8, rfl, gs8g⟩) ?_
  refine hC _ _ _ _ _ ?_ hcall9
  rintro _ h5 ⟨hL6, r7, rfl⟩
  show Vx (Ex S 24) S M_368 [] Q1 1973 (px_s1 lv 5 (.int r3)) [.int r7] h5 (c + 2) (s + 12)
  refine Vx.go hC te_368_1973 ?_
  refine ⟨by decide, ?_⟩
  have hl10 := LwS.st (j := 6) (v := .int r7) (by omega) hl4
  show Vx (Ex S 24) S M_368 [] Q1 1975 (px_s1 (px_s1 lv 5 (.int r3)) 6 (.int r7)) [] h5 (c + 2) (s + 12)
  refine Vx.go hC te_368_1975 ?_
  refine ⟨by decide, ?_⟩
  exact Nx _ _ _ _ hl10 hL6 (by omega) (by omega)
theorem lc_40 {S : Nat × (Nat → Int32)} {lv : LV} {h : PH} {c s : Nat} {i : Int32} (hS : S.1 ≤ 3072) (hl : LwS lv i) (hi : 0 ≤ i.toInt ∧ i.toInt + 5 < S.1) (hL : LR h) (hc : c + 8 ≤ 601024) (hs : s + 48 ≤ 7293033) (Nx : ∀ lv' h' c' s', LwS lv' i → LR h' → c' ≤ c + 8 → s' ≤ s + 48 → Vx (Ex S 24) S M_368 [] Q1 2351 lv' [] h' c' s') : Vx (Ex S 24) S M_368 [] Q1 1978 lv [] h c s := by
  have hC := Ex.mono S 24
  refine Vx.go hC te_368_1978 ?_
  refine ⟨_, hl.2.1, ⟨0, Or.inl rfl⟩, ?_⟩
  refine sc_load hC (k := 1) hl te_368_1979 te_368_1980 te_368_1982 te_368_1983 te_368_1984 (sc_in hS hi (by decide)) ?_
  refine sc_load hC (k := 2) hl te_368_1985 te_368_1986 te_368_1988 te_368_1989 te_368_1990 (sc_in hS hi (by decide)) ?_
  refine Vx.go hC te_368_1991 ?_
  refine ⟨_, hl.2.2.2.1, ⟨173, Or.inl rfl⟩, ?_⟩
  refine Vx.go hC te_368_1992 ?_
  refine Or.inr ⟨by decide, ?_⟩
  refine p_call_mk (av := [.ref 0, .int (S.2 (i + Int32.ofInt 1).toNatClampNeg), .int (S.2 (i + Int32.ofInt 2).toNatClampNeg), .ref 173]) (rest := []) mt_200 rfl (by decide) (show c + 4 ≤ 601024 by omega) (show s + 24 ≤ 7293033 by omega) (fun q => by cases q) ?_
  refine g_200 (n := 6) hL (fun r3 h1 hL2 => ?_)
  show Vx (Ex S 24) S M_368 [] Q1 1995 lv [.int r3] h1 (c + 4) (s + 24)
  refine Vx.go hC te_368_1995 ?_
  refine ⟨by decide, ?_⟩
  have hl4 := LwS.st (j := 5) (v := .int r3) (by omega) hl
  show Vx (Ex S 24) S M_368 [] Q1 1997 (px_s1 lv 5 (.int r3)) [] h1 (c + 4) (s + 24)
  refine Vx.go hC te_368_1997 ?_
  refine ⟨_, hl4.2.2.1, ⟨143, Or.inl rfl⟩, ?_⟩
  refine sc_load hC (k := 1) hl4 te_368_1998 te_368_1999 te_368_2001 te_368_2002 te_368_2003 (sc_in hS hi (by decide)) ?_
  refine sc_load hC (k := 2) hl4 te_368_2004 te_368_2005 te_368_2007 te_368_2008 te_368_2009 (sc_in hS hi (by decide)) ?_
  refine Vx.go hC te_368_2010 ?_
  obtain ⟨gs8, gs8g⟩ := hL2.obj (A := 143) rfl
  have hcall9 := ref_call (S := S) (n := 24) (μ := 356) (args := [.inr 143, .inl ((S.2 (i + Int32.ofInt 1).toNatClampNeg) : Int32).toInt, .inl ((S.2 (i + Int32.ofInt 2).toNatClampNeg) : Int32).toInt]) (h := h1) (fun v hv => by simp only [List.mem_cons, List.not_mem_nil, or_false] at hv; rcases hv with rfl | rfl | rfl <;> first | trivial | exact wiI _) hL2 (fun mem hr => f_356 hr (fun r m' a b => ⟨a, b⟩))
  simp only [List.map_cons, List.map_nil, wv, Int32.ofInt_toInt] at hcall9
  refine p_call_mk (av := [.ref 143, .int (S.2 (i + Int32.ofInt 1).toNatClampNeg), .int (S.2 (i + Int32.ofInt 2).toNatClampNeg)]) (rest := []) mt_356 rfl (by decide) (show (c + 4) + 0 ≤ 601024 by omega) (show (s + 24) + 0 ≤ 7293033 by omega) (fun _ => ⟨143, gs8, rfl, gs8g⟩) ?_
  refine hC _ _ _ _ _ ?_ hcall9
  rintro _ h5 ⟨hL6, r7, rfl⟩
  show Vx (Ex S 24) S M_368 [] Q1 2013 (px_s1 lv 5 (.int r3)) [.int r7] h5 (c + 4) (s + 24)
  refine Vx.go hC te_368_2013 ?_
  refine ⟨by decide, ?_⟩
  have hl10 := LwS.st (j := 6) (v := .int r7) (by omega) hl4
  show Vx (Ex S 24) S M_368 [] Q1 2015 (px_s1 (px_s1 lv 5 (.int r3)) 6 (.int r7)) [] h5 (c + 4) (s + 24)
  refine Vx.go hC te_368_2015 ?_
  refine ⟨by decide, ?_⟩
  exact Nx _ _ _ _ hl10 hL6 (by omega) (by omega)
theorem lc_41 {S : Nat × (Nat → Int32)} {lv : LV} {h : PH} {c s : Nat} {i : Int32} (hS : S.1 ≤ 3072) (hl : LwS lv i) (hi : 0 ≤ i.toInt ∧ i.toInt + 5 < S.1) (hL : LR h) (hc : c + 8 ≤ 601024) (hs : s + 48 ≤ 7293033) (Nx : ∀ lv' h' c' s', LwS lv' i → LR h' → c' ≤ c + 8 → s' ≤ s + 48 → Vx (Ex S 24) S M_368 [] Q1 2351 lv' [] h' c' s') : Vx (Ex S 24) S M_368 [] Q1 2018 lv [] h c s := by
  have hC := Ex.mono S 24
  refine Vx.go hC te_368_2018 ?_
  refine ⟨_, hl.2.1, ⟨0, Or.inl rfl⟩, ?_⟩
  refine sc_load hC (k := 1) hl te_368_2019 te_368_2020 te_368_2022 te_368_2023 te_368_2024 (sc_in hS hi (by decide)) ?_
  refine sc_load hC (k := 2) hl te_368_2025 te_368_2026 te_368_2028 te_368_2029 te_368_2030 (sc_in hS hi (by decide)) ?_
  refine sc_load hC (k := 3) hl te_368_2031 te_368_2032 te_368_2034 te_368_2035 te_368_2036 (sc_in hS hi (by decide)) ?_
  refine Vx.go hC te_368_2037 ?_
  refine ⟨by decide, fun q => ?_, fun q => ?_⟩
  · show Vx (Ex S 24) S M_368 [] Q1 2044 lv [.int (S.2 (i + Int32.ofInt 2).toNatClampNeg), .int (S.2 (i + Int32.ofInt 1).toNatClampNeg), .ref 0] h c s
    refine Vx.go hC te_368_2044 ?_
    refine Vx.go hC te_368_2045 ?_
    refine ⟨_, hl.2.2.2.1, ⟨173, Or.inl rfl⟩, ?_⟩
    refine Vx.go hC te_368_2046 ?_
    refine Or.inr ⟨by decide, ?_⟩
    refine p_call_mk (av := [.ref 0, .int (S.2 (i + Int32.ofInt 1).toNatClampNeg), .int (S.2 (i + Int32.ofInt 2).toNatClampNeg), .int (Int32.ofInt 0), .ref 173]) (rest := []) mt_202 rfl (by decide) (show c + 4 ≤ 601024 by omega) (show s + 24 ≤ 7293033 by omega) (fun q => by cases q) ?_
    refine g_202 (n := 6) hL (fun r3 h1 hL2 => ?_)
    show Vx (Ex S 24) S M_368 [] Q1 2049 lv [.int r3] h1 (c + 4) (s + 24)
    refine Vx.go hC te_368_2049 ?_
    refine ⟨by decide, ?_⟩
    have hl4 := LwS.st (j := 5) (v := .int r3) (by omega) hl
    show Vx (Ex S 24) S M_368 [] Q1 2051 (px_s1 lv 5 (.int r3)) [] h1 (c + 4) (s + 24)
    refine Vx.go hC te_368_2051 ?_
    refine ⟨_, hl4.2.2.1, ⟨143, Or.inl rfl⟩, ?_⟩
    refine sc_load hC (k := 1) hl4 te_368_2052 te_368_2053 te_368_2055 te_368_2056 te_368_2057 (sc_in hS hi (by decide)) ?_
    refine sc_load hC (k := 2) hl4 te_368_2058 te_368_2059 te_368_2061 te_368_2062 te_368_2063 (sc_in hS hi (by decide)) ?_
    refine sc_load hC (k := 3) hl4 te_368_2064 te_368_2065 te_368_2067 te_368_2068 te_368_2069 (sc_in hS hi (by decide)) ?_
    refine Vx.go hC te_368_2070 ?_
    refine ⟨by decide, fun q => ?_, fun q => ?_⟩
    · show Vx (Ex S 24) S M_368 [] Q1 2077 (px_s1 lv 5 (.int r3)) [.int (S.2 (i + Int32.ofInt 2).toNatClampNeg), .int (S.2 (i + Int32.ofInt 1).toNatClampNeg), .ref 143] h1 (c + 4) (s + 24)
      refine Vx.go hC te_368_2077 ?_
      refine Vx.go hC te_368_2078 ?_
      obtain ⟨gs8, gs8g⟩ := hL2.obj (A := 143) rfl
      have hcall9 := ref_call (S := S) (n := 24) (μ := 359) (args := [.inr 143, .inl ((S.2 (i + Int32.ofInt 1).toNatClampNeg) : Int32).toInt, .inl ((S.2 (i + Int32.ofInt 2).toNatClampNeg) : Int32).toInt, .inl ((Int32.ofInt 0) : Int32).toInt]) (h := h1) (fun v hv => by simp only [List.mem_cons, List.not_mem_nil, or_false] at hv; rcases hv with rfl | rfl | rfl | rfl <;> first | trivial | exact wiI _) hL2 (fun mem hr => f_359 hr (fun r m' a b => ⟨a, b⟩))
      simp only [List.map_cons, List.map_nil, wv, Int32.ofInt_toInt] at hcall9
      refine p_call_mk (av := [.ref 143, .int (S.2 (i + Int32.ofInt 1).toNatClampNeg), .int (S.2 (i + Int32.ofInt 2).toNatClampNeg), .int (Int32.ofInt 0)]) (rest := []) mt_359 rfl (by decide) (show (c + 4) + 0 ≤ 601024 by omega) (show (s + 24) + 0 ≤ 7293033 by omega) (fun _ => ⟨143, gs8, rfl, gs8g⟩) ?_
      refine hC _ _ _ _ _ ?_ hcall9
      rintro _ h5 ⟨hL6, r7, rfl⟩
      show Vx (Ex S 24) S M_368 [] Q1 2081 (px_s1 lv 5 (.int r3)) [.int r7] h5 (c + 4) (s + 24)
      refine Vx.go hC te_368_2081 ?_
      refine ⟨by decide, ?_⟩
      have hl10 := LwS.st (j := 6) (v := .int r7) (by omega) hl4
      show Vx (Ex S 24) S M_368 [] Q1 2083 (px_s1 (px_s1 lv 5 (.int r3)) 6 (.int r7)) [] h5 (c + 4) (s + 24)
      refine Vx.go hC te_368_2083 ?_
      refine ⟨by decide, ?_⟩
      exact Nx _ _ _ _ hl10 hL6 (by omega) (by omega)
    · show Vx (Ex S 24) S M_368 [] Q1 2073 (px_s1 lv 5 (.int r3)) [.int (S.2 (i + Int32.ofInt 2).toNatClampNeg), .int (S.2 (i + Int32.ofInt 1).toNatClampNeg), .ref 143] h1 (c + 4) (s + 24)
      refine Vx.go hC te_368_2073 ?_
      refine Vx.go hC te_368_2074 ?_
      refine ⟨by decide, ?_⟩
      show Vx (Ex S 24) S M_368 [] Q1 2078 (px_s1 lv 5 (.int r3)) [.int (Int32.ofInt 1), .int (S.2 (i + Int32.ofInt 2).toNatClampNeg), .int (S.2 (i + Int32.ofInt 1).toNatClampNeg), .ref 143] h1 (c + 4) (s + 24)
      refine Vx.go hC te_368_2078 ?_
      obtain ⟨gs14, gs14g⟩ := hL2.obj (A := 143) rfl
      have hcall15 := ref_call (S := S) (n := 24) (μ := 359) (args := [.inr 143, .inl ((S.2 (i + Int32.ofInt 1).toNatClampNeg) : Int32).toInt, .inl ((S.2 (i + Int32.ofInt 2).toNatClampNeg) : Int32).toInt, .inl ((Int32.ofInt 1) : Int32).toInt]) (h := h1) (fun v hv => by simp only [List.mem_cons, List.not_mem_nil, or_false] at hv; rcases hv with rfl | rfl | rfl | rfl <;> first | trivial | exact wiI _) hL2 (fun mem hr => f_359 hr (fun r m' a b => ⟨a, b⟩))
      simp only [List.map_cons, List.map_nil, wv, Int32.ofInt_toInt] at hcall15
      refine p_call_mk (av := [.ref 143, .int (S.2 (i + Int32.ofInt 1).toNatClampNeg), .int (S.2 (i + Int32.ofInt 2).toNatClampNeg), .int (Int32.ofInt 1)]) (rest := []) mt_359 rfl (by decide) (show (c + 4) + 0 ≤ 601024 by omega) (show (s + 24) + 0 ≤ 7293033 by omega) (fun _ => ⟨143, gs14, rfl, gs14g⟩) ?_
      refine hC _ _ _ _ _ ?_ hcall15
      rintro _ h11 ⟨hL12, r13, rfl⟩
      show Vx (Ex S 24) S M_368 [] Q1 2081 (px_s1 lv 5 (.int r3)) [.int r13] h11 (c + 4) (s + 24)
      refine Vx.go hC te_368_2081 ?_
      refine ⟨by decide, ?_⟩
      have hl16 := LwS.st (j := 6) (v := .int r13) (by omega) hl4
      show Vx (Ex S 24) S M_368 [] Q1 2083 (px_s1 (px_s1 lv 5 (.int r3)) 6 (.int r13)) [] h11 (c + 4) (s + 24)
      refine Vx.go hC te_368_2083 ?_
      refine ⟨by decide, ?_⟩
      exact Nx _ _ _ _ hl16 hL12 (by omega) (by omega)
  · show Vx (Ex S 24) S M_368 [] Q1 2040 lv [.int (S.2 (i + Int32.ofInt 2).toNatClampNeg), .int (S.2 (i + Int32.ofInt 1).toNatClampNeg), .ref 0] h c s
    refine Vx.go hC te_368_2040 ?_
    refine Vx.go hC te_368_2041 ?_
    refine ⟨by decide, ?_⟩
    show Vx (Ex S 24) S M_368 [] Q1 2045 lv [.int (Int32.ofInt 1), .int (S.2 (i + Int32.ofInt 2).toNatClampNeg), .int (S.2 (i + Int32.ofInt 1).toNatClampNeg), .ref 0] h c s
    refine Vx.go hC te_368_2045 ?_
    refine ⟨_, hl.2.2.2.1, ⟨173, Or.inl rfl⟩, ?_⟩
    refine Vx.go hC te_368_2046 ?_
    refine Or.inr ⟨by decide, ?_⟩
    refine p_call_mk (av := [.ref 0, .int (S.2 (i + Int32.ofInt 1).toNatClampNeg), .int (S.2 (i + Int32.ofInt 2).toNatClampNeg), .int (Int32.ofInt 1), .ref 173]) (rest := []) mt_202 rfl (by decide) (show c + 4 ≤ 601024 by omega) (show s + 24 ≤ 7293033 by omega) (fun q => by cases q) ?_
    refine g_202 (n := 6) hL (fun r19 h17 hL18 => ?_)
    show Vx (Ex S 24) S M_368 [] Q1 2049 lv [.int r19] h17 (c + 4) (s + 24)
    refine Vx.go hC te_368_2049 ?_
    refine ⟨by decide, ?_⟩
    have hl20 := LwS.st (j := 5) (v := .int r19) (by omega) hl
    show Vx (Ex S 24) S M_368 [] Q1 2051 (px_s1 lv 5 (.int r19)) [] h17 (c + 4) (s + 24)
    refine Vx.go hC te_368_2051 ?_
    refine ⟨_, hl20.2.2.1, ⟨143, Or.inl rfl⟩, ?_⟩
    refine sc_load hC (k := 1) hl20 te_368_2052 te_368_2053 te_368_2055 te_368_2056 te_368_2057 (sc_in hS hi (by decide)) ?_
    refine sc_load hC (k := 2) hl20 te_368_2058 te_368_2059 te_368_2061 te_368_2062 te_368_2063 (sc_in hS hi (by decide)) ?_
    refine sc_load hC (k := 3) hl20 te_368_2064 te_368_2065 te_368_2067 te_368_2068 te_368_2069 (sc_in hS hi (by decide)) ?_
    refine Vx.go hC te_368_2070 ?_
    refine ⟨by decide, fun q => ?_, fun q => ?_⟩
    · show Vx (Ex S 24) S M_368 [] Q1 2077 (px_s1 lv 5 (.int r19)) [.int (S.2 (i + Int32.ofInt 2).toNatClampNeg), .int (S.2 (i + Int32.ofInt 1).toNatClampNeg), .ref 143] h17 (c + 4) (s + 24)
      refine Vx.go hC te_368_2077 ?_
      refine Vx.go hC te_368_2078 ?_
      obtain ⟨gs24, gs24g⟩ := hL18.obj (A := 143) rfl
      have hcall25 := ref_call (S := S) (n := 24) (μ := 359) (args := [.inr 143, .inl ((S.2 (i + Int32.ofInt 1).toNatClampNeg) : Int32).toInt, .inl ((S.2 (i + Int32.ofInt 2).toNatClampNeg) : Int32).toInt, .inl ((Int32.ofInt 0) : Int32).toInt]) (h := h17) (fun v hv => by simp only [List.mem_cons, List.not_mem_nil, or_false] at hv; rcases hv with rfl | rfl | rfl | rfl <;> first | trivial | exact wiI _) hL18 (fun mem hr => f_359 hr (fun r m' a b => ⟨a, b⟩))
      simp only [List.map_cons, List.map_nil, wv, Int32.ofInt_toInt] at hcall25
      refine p_call_mk (av := [.ref 143, .int (S.2 (i + Int32.ofInt 1).toNatClampNeg), .int (S.2 (i + Int32.ofInt 2).toNatClampNeg), .int (Int32.ofInt 0)]) (rest := []) mt_359 rfl (by decide) (show (c + 4) + 0 ≤ 601024 by omega) (show (s + 24) + 0 ≤ 7293033 by omega) (fun _ => ⟨143, gs24, rfl, gs24g⟩) ?_
      refine hC _ _ _ _ _ ?_ hcall25
      rintro _ h21 ⟨hL22, r23, rfl⟩
      show Vx (Ex S 24) S M_368 [] Q1 2081 (px_s1 lv 5 (.int r19)) [.int r23] h21 (c + 4) (s + 24)
      refine Vx.go hC te_368_2081 ?_
      refine ⟨by decide, ?_⟩
      have hl26 := LwS.st (j := 6) (v := .int r23) (by omega) hl20
      show Vx (Ex S 24) S M_368 [] Q1 2083 (px_s1 (px_s1 lv 5 (.int r19)) 6 (.int r23)) [] h21 (c + 4) (s + 24)
      refine Vx.go hC te_368_2083 ?_
      refine ⟨by decide, ?_⟩
      exact Nx _ _ _ _ hl26 hL22 (by omega) (by omega)
    · show Vx (Ex S 24) S M_368 [] Q1 2073 (px_s1 lv 5 (.int r19)) [.int (S.2 (i + Int32.ofInt 2).toNatClampNeg), .int (S.2 (i + Int32.ofInt 1).toNatClampNeg), .ref 143] h17 (c + 4) (s + 24)
      refine Vx.go hC te_368_2073 ?_
      refine Vx.go hC te_368_2074 ?_
      refine ⟨by decide, ?_⟩
      show Vx (Ex S 24) S M_368 [] Q1 2078 (px_s1 lv 5 (.int r19)) [.int (Int32.ofInt 1), .int (S.2 (i + Int32.ofInt 2).toNatClampNeg), .int (S.2 (i + Int32.ofInt 1).toNatClampNeg), .ref 143] h17 (c + 4) (s + 24)
      refine Vx.go hC te_368_2078 ?_
      obtain ⟨gs30, gs30g⟩ := hL18.obj (A := 143) rfl
      have hcall31 := ref_call (S := S) (n := 24) (μ := 359) (args := [.inr 143, .inl ((S.2 (i + Int32.ofInt 1).toNatClampNeg) : Int32).toInt, .inl ((S.2 (i + Int32.ofInt 2).toNatClampNeg) : Int32).toInt, .inl ((Int32.ofInt 1) : Int32).toInt]) (h := h17) (fun v hv => by simp only [List.mem_cons, List.not_mem_nil, or_false] at hv; rcases hv with rfl | rfl | rfl | rfl <;> first | trivial | exact wiI _) hL18 (fun mem hr => f_359 hr (fun r m' a b => ⟨a, b⟩))
      simp only [List.map_cons, List.map_nil, wv, Int32.ofInt_toInt] at hcall31
      refine p_call_mk (av := [.ref 143, .int (S.2 (i + Int32.ofInt 1).toNatClampNeg), .int (S.2 (i + Int32.ofInt 2).toNatClampNeg), .int (Int32.ofInt 1)]) (rest := []) mt_359 rfl (by decide) (show (c + 4) + 0 ≤ 601024 by omega) (show (s + 24) + 0 ≤ 7293033 by omega) (fun _ => ⟨143, gs30, rfl, gs30g⟩) ?_
      refine hC _ _ _ _ _ ?_ hcall31
      rintro _ h27 ⟨hL28, r29, rfl⟩
      show Vx (Ex S 24) S M_368 [] Q1 2081 (px_s1 lv 5 (.int r19)) [.int r29] h27 (c + 4) (s + 24)
      refine Vx.go hC te_368_2081 ?_
      refine ⟨by decide, ?_⟩
      have hl32 := LwS.st (j := 6) (v := .int r29) (by omega) hl20
      show Vx (Ex S 24) S M_368 [] Q1 2083 (px_s1 (px_s1 lv 5 (.int r19)) 6 (.int r29)) [] h27 (c + 4) (s + 24)
      refine Vx.go hC te_368_2083 ?_
      refine ⟨by decide, ?_⟩
      exact Nx _ _ _ _ hl32 hL28 (by omega) (by omega)
theorem lc_42 {S : Nat × (Nat → Int32)} {lv : LV} {h : PH} {c s : Nat} {i : Int32} (hS : S.1 ≤ 3072) (hl : LwS lv i) (hi : 0 ≤ i.toInt ∧ i.toInt + 5 < S.1) (hL : LR h) (hc : c + 8 ≤ 601024) (hs : s + 48 ≤ 7293033) (Nx : ∀ lv' h' c' s', LwS lv' i → LR h' → c' ≤ c + 8 → s' ≤ s + 48 → Vx (Ex S 24) S M_368 [] Q1 2351 lv' [] h' c' s') : Vx (Ex S 24) S M_368 [] Q1 2086 lv [] h c s := by
  have hC := Ex.mono S 24
  refine Vx.go hC te_368_2086 ?_
  refine ⟨_, hl.2.1, ⟨0, Or.inl rfl⟩, ?_⟩
  refine sc_load hC (k := 1) hl te_368_2087 te_368_2088 te_368_2090 te_368_2091 te_368_2092 (sc_in hS hi (by decide)) ?_
  refine sc_load hC (k := 2) hl te_368_2093 te_368_2094 te_368_2096 te_368_2097 te_368_2098 (sc_in hS hi (by decide)) ?_
  refine sc_load hC (k := 3) hl te_368_2099 te_368_2100 te_368_2102 te_368_2103 te_368_2104 (sc_in hS hi (by decide)) ?_
  refine Vx.go hC te_368_2105 ?_
  refine ⟨_, hl.2.2.2.1, ⟨173, Or.inl rfl⟩, ?_⟩
  refine Vx.go hC te_368_2106 ?_
  refine Or.inr ⟨by decide, ?_⟩
  refine p_call_mk (av := [.ref 0, .int (S.2 (i + Int32.ofInt 1).toNatClampNeg), .int (S.2 (i + Int32.ofInt 2).toNatClampNeg), .int (S.2 (i + Int32.ofInt 3).toNatClampNeg), .ref 173]) (rest := []) mt_206 rfl (by decide) (show c + 6 ≤ 601024 by omega) (show s + 36 ≤ 7293033 by omega) (fun q => by cases q) ?_
  refine g_206 (n := 6) hL (fun r3 h1 hL2 => ?_)
  show Vx (Ex S 24) S M_368 [] Q1 2109 lv [.int r3] h1 (c + 6) (s + 36)
  refine Vx.go hC te_368_2109 ?_
  refine ⟨by decide, ?_⟩
  have hl4 := LwS.st (j := 5) (v := .int r3) (by omega) hl
  show Vx (Ex S 24) S M_368 [] Q1 2111 (px_s1 lv 5 (.int r3)) [] h1 (c + 6) (s + 36)
  refine Vx.go hC te_368_2111 ?_
  refine ⟨_, hl4.2.2.1, ⟨143, Or.inl rfl⟩, ?_⟩
  refine sc_load hC (k := 1) hl4 te_368_2112 te_368_2113 te_368_2115 te_368_2116 te_368_2117 (sc_in hS hi (by decide)) ?_
  refine sc_load hC (k := 2) hl4 te_368_2118 te_368_2119 te_368_2121 te_368_2122 te_368_2123 (sc_in hS hi (by decide)) ?_
  refine sc_load hC (k := 3) hl4 te_368_2124 te_368_2125 te_368_2127 te_368_2128 te_368_2129 (sc_in hS hi (by decide)) ?_
  refine Vx.go hC te_368_2130 ?_
  obtain ⟨gs8, gs8g⟩ := hL2.obj (A := 143) rfl
  have hcall9 := ref_call (S := S) (n := 24) (μ := 361) (args := [.inr 143, .inl ((S.2 (i + Int32.ofInt 1).toNatClampNeg) : Int32).toInt, .inl ((S.2 (i + Int32.ofInt 2).toNatClampNeg) : Int32).toInt, .inl ((S.2 (i + Int32.ofInt 3).toNatClampNeg) : Int32).toInt]) (h := h1) (fun v hv => by simp only [List.mem_cons, List.not_mem_nil, or_false] at hv; rcases hv with rfl | rfl | rfl | rfl <;> first | trivial | exact wiI _) hL2 (fun mem hr => f_361 hr (fun r m' a b => ⟨a, b⟩))
  simp only [List.map_cons, List.map_nil, wv, Int32.ofInt_toInt] at hcall9
  refine p_call_mk (av := [.ref 143, .int (S.2 (i + Int32.ofInt 1).toNatClampNeg), .int (S.2 (i + Int32.ofInt 2).toNatClampNeg), .int (S.2 (i + Int32.ofInt 3).toNatClampNeg)]) (rest := []) mt_361 rfl (by decide) (show (c + 6) + 0 ≤ 601024 by omega) (show (s + 36) + 0 ≤ 7293033 by omega) (fun _ => ⟨143, gs8, rfl, gs8g⟩) ?_
  refine hC _ _ _ _ _ ?_ hcall9
  rintro _ h5 ⟨hL6, r7, rfl⟩
  show Vx (Ex S 24) S M_368 [] Q1 2133 (px_s1 lv 5 (.int r3)) [.int r7] h5 (c + 6) (s + 36)
  refine Vx.go hC te_368_2133 ?_
  refine ⟨by decide, ?_⟩
  have hl10 := LwS.st (j := 6) (v := .int r7) (by omega) hl4
  show Vx (Ex S 24) S M_368 [] Q1 2135 (px_s1 (px_s1 lv 5 (.int r3)) 6 (.int r7)) [] h5 (c + 6) (s + 36)
  refine Vx.go hC te_368_2135 ?_
  refine ⟨by decide, ?_⟩
  exact Nx _ _ _ _ hl10 hL6 (by omega) (by omega)
theorem lc_43 {S : Nat × (Nat → Int32)} {lv : LV} {h : PH} {c s : Nat} {i : Int32} (hS : S.1 ≤ 3072) (hl : LwS lv i) (hi : 0 ≤ i.toInt ∧ i.toInt + 5 < S.1) (hL : LR h) (hc : c + 8 ≤ 601024) (hs : s + 48 ≤ 7293033) (Nx : ∀ lv' h' c' s', LwS lv' i → LR h' → c' ≤ c + 8 → s' ≤ s + 48 → Vx (Ex S 24) S M_368 [] Q1 2351 lv' [] h' c' s') : Vx (Ex S 24) S M_368 [] Q1 2138 lv [] h c s := by
  have hC := Ex.mono S 24
  refine Vx.go hC te_368_2138 ?_
  refine ⟨_, hl.2.1, ⟨0, Or.inl rfl⟩, ?_⟩
  refine sc_load hC (k := 1) hl te_368_2139 te_368_2140 te_368_2142 te_368_2143 te_368_2144 (sc_in hS hi (by decide)) ?_
  refine sc_load hC (k := 2) hl te_368_2145 te_368_2146 te_368_2148 te_368_2149 te_368_2150 (sc_in hS hi (by decide)) ?_
  refine Vx.go hC te_368_2151 ?_
  refine ⟨_, hl.2.2.2.1, ⟨173, Or.inl rfl⟩, ?_⟩
  refine Vx.go hC te_368_2152 ?_
  refine Or.inr ⟨by decide, ?_⟩
  refine p_call_mk (av := [.ref 0, .int (S.2 (i + Int32.ofInt 1).toNatClampNeg), .int (S.2 (i + Int32.ofInt 2).toNatClampNeg), .ref 173]) (rest := []) mt_209 rfl (by decide) (show c + 5 ≤ 601024 by omega) (show s + 30 ≤ 7293033 by omega) (fun q => by cases q) ?_
  refine g_209 (n := 6) hL (fun r3 h1 hL2 => ?_)
  show Vx (Ex S 24) S M_368 [] Q1 2155 lv [.int r3] h1 (c + 5) (s + 30)
  refine Vx.go hC te_368_2155 ?_
  refine ⟨by decide, ?_⟩
  have hl4 := LwS.st (j := 5) (v := .int r3) (by omega) hl
  show Vx (Ex S 24) S M_368 [] Q1 2157 (px_s1 lv 5 (.int r3)) [] h1 (c + 5) (s + 30)
  refine Vx.go hC te_368_2157 ?_
  refine ⟨_, hl4.2.2.1, ⟨143, Or.inl rfl⟩, ?_⟩
  refine sc_load hC (k := 1) hl4 te_368_2158 te_368_2159 te_368_2161 te_368_2162 te_368_2163 (sc_in hS hi (by decide)) ?_
  refine sc_load hC (k := 2) hl4 te_368_2164 te_368_2165 te_368_2167 te_368_2168 te_368_2169 (sc_in hS hi (by decide)) ?_
  refine Vx.go hC te_368_2170 ?_
  obtain ⟨gs8, gs8g⟩ := hL2.obj (A := 143) rfl
  have hcall9 := ref_call (S := S) (n := 24) (μ := 362) (args := [.inr 143, .inl ((S.2 (i + Int32.ofInt 1).toNatClampNeg) : Int32).toInt, .inl ((S.2 (i + Int32.ofInt 2).toNatClampNeg) : Int32).toInt]) (h := h1) (fun v hv => by simp only [List.mem_cons, List.not_mem_nil, or_false] at hv; rcases hv with rfl | rfl | rfl <;> first | trivial | exact wiI _) hL2 (fun mem hr => f_362 hr (fun r m' a b => ⟨a, b⟩))
  simp only [List.map_cons, List.map_nil, wv, Int32.ofInt_toInt] at hcall9
  refine p_call_mk (av := [.ref 143, .int (S.2 (i + Int32.ofInt 1).toNatClampNeg), .int (S.2 (i + Int32.ofInt 2).toNatClampNeg)]) (rest := []) mt_362 rfl (by decide) (show (c + 5) + 0 ≤ 601024 by omega) (show (s + 30) + 0 ≤ 7293033 by omega) (fun _ => ⟨143, gs8, rfl, gs8g⟩) ?_
  refine hC _ _ _ _ _ ?_ hcall9
  rintro _ h5 ⟨hL6, r7, rfl⟩
  show Vx (Ex S 24) S M_368 [] Q1 2173 (px_s1 lv 5 (.int r3)) [.int r7] h5 (c + 5) (s + 30)
  refine Vx.go hC te_368_2173 ?_
  refine ⟨by decide, ?_⟩
  have hl10 := LwS.st (j := 6) (v := .int r7) (by omega) hl4
  show Vx (Ex S 24) S M_368 [] Q1 2175 (px_s1 (px_s1 lv 5 (.int r3)) 6 (.int r7)) [] h5 (c + 5) (s + 30)
  refine Vx.go hC te_368_2175 ?_
  refine ⟨by decide, ?_⟩
  exact Nx _ _ _ _ hl10 hL6 (by omega) (by omega)
theorem lc_44 {S : Nat × (Nat → Int32)} {lv : LV} {h : PH} {c s : Nat} {i : Int32} (hS : S.1 ≤ 3072) (hl : LwS lv i) (hi : 0 ≤ i.toInt ∧ i.toInt + 5 < S.1) (hL : LR h) (hc : c + 8 ≤ 601024) (hs : s + 48 ≤ 7293033) (Nx : ∀ lv' h' c' s', LwS lv' i → LR h' → c' ≤ c + 8 → s' ≤ s + 48 → Vx (Ex S 24) S M_368 [] Q1 2351 lv' [] h' c' s') : Vx (Ex S 24) S M_368 [] Q1 2178 lv [] h c s := by
  have hC := Ex.mono S 24
  refine Vx.go hC te_368_2178 ?_
  refine ⟨_, hl.2.1, ⟨0, Or.inl rfl⟩, ?_⟩
  refine sc_load hC (k := 1) hl te_368_2179 te_368_2180 te_368_2182 te_368_2183 te_368_2184 (sc_in hS hi (by decide)) ?_
  refine sc_load hC (k := 2) hl te_368_2185 te_368_2186 te_368_2188 te_368_2189 te_368_2190 (sc_in hS hi (by decide)) ?_
  refine sc_load hC (k := 3) hl te_368_2191 te_368_2192 te_368_2194 te_368_2195 te_368_2196 (sc_in hS hi (by decide)) ?_
  refine sc_load hC (k := 4) hl te_368_2197 te_368_2198 te_368_2200 te_368_2201 te_368_2202 (sc_in hS hi (by decide)) ?_
  refine Vx.go hC te_368_2203 ?_
  refine ⟨_, hl.2.2.2.1, ⟨173, Or.inl rfl⟩, ?_⟩
  refine Vx.go hC te_368_2204 ?_
  refine Or.inr ⟨by decide, ?_⟩
  refine p_call_mk (av := [.ref 0, .int (S.2 (i + Int32.ofInt 1).toNatClampNeg), .int (S.2 (i + Int32.ofInt 2).toNatClampNeg), .int (S.2 (i + Int32.ofInt 3).toNatClampNeg), .int (S.2 (i + Int32.ofInt 4).toNatClampNeg), .ref 173]) (rest := []) mt_213 rfl (by decide) (show c + 6 ≤ 601024 by omega) (show s + 36 ≤ 7293033 by omega) (fun q => by cases q) ?_
  refine g_213 (n := 6) hL (fun r3 h1 hL2 => ?_)
  show Vx (Ex S 24) S M_368 [] Q1 2207 lv [.int r3] h1 (c + 6) (s + 36)
  refine Vx.go hC te_368_2207 ?_
  refine ⟨by decide, ?_⟩
  have hl4 := LwS.st (j := 5) (v := .int r3) (by omega) hl
  show Vx (Ex S 24) S M_368 [] Q1 2209 (px_s1 lv 5 (.int r3)) [] h1 (c + 6) (s + 36)
  refine Vx.go hC te_368_2209 ?_
  refine ⟨_, hl4.2.2.1, ⟨143, Or.inl rfl⟩, ?_⟩
  refine sc_load hC (k := 1) hl4 te_368_2210 te_368_2211 te_368_2213 te_368_2214 te_368_2215 (sc_in hS hi (by decide)) ?_
  refine sc_load hC (k := 2) hl4 te_368_2216 te_368_2217 te_368_2219 te_368_2220 te_368_2221 (sc_in hS hi (by decide)) ?_
  refine sc_load hC (k := 3) hl4 te_368_2222 te_368_2223 te_368_2225 te_368_2226 te_368_2227 (sc_in hS hi (by decide)) ?_
  refine sc_load hC (k := 4) hl4 te_368_2228 te_368_2229 te_368_2231 te_368_2232 te_368_2233 (sc_in hS hi (by decide)) ?_
  refine Vx.go hC te_368_2234 ?_
  obtain ⟨gs8, gs8g⟩ := hL2.obj (A := 143) rfl
  have hcall9 := ref_call (S := S) (n := 24) (μ := 364) (args := [.inr 143, .inl ((S.2 (i + Int32.ofInt 1).toNatClampNeg) : Int32).toInt, .inl ((S.2 (i + Int32.ofInt 2).toNatClampNeg) : Int32).toInt, .inl ((S.2 (i + Int32.ofInt 3).toNatClampNeg) : Int32).toInt, .inl ((S.2 (i + Int32.ofInt 4).toNatClampNeg) : Int32).toInt]) (h := h1) (fun v hv => by simp only [List.mem_cons, List.not_mem_nil, or_false] at hv; rcases hv with rfl | rfl | rfl | rfl | rfl <;> first | trivial | exact wiI _) hL2 (fun mem hr => f_364 hr (fun r m' a b => ⟨a, b⟩))
  simp only [List.map_cons, List.map_nil, wv, Int32.ofInt_toInt] at hcall9
  refine p_call_mk (av := [.ref 143, .int (S.2 (i + Int32.ofInt 1).toNatClampNeg), .int (S.2 (i + Int32.ofInt 2).toNatClampNeg), .int (S.2 (i + Int32.ofInt 3).toNatClampNeg), .int (S.2 (i + Int32.ofInt 4).toNatClampNeg)]) (rest := []) mt_364 rfl (by decide) (show (c + 6) + 0 ≤ 601024 by omega) (show (s + 36) + 0 ≤ 7293033 by omega) (fun _ => ⟨143, gs8, rfl, gs8g⟩) ?_
  refine hC _ _ _ _ _ ?_ hcall9
  rintro _ h5 ⟨hL6, r7, rfl⟩
  show Vx (Ex S 24) S M_368 [] Q1 2237 (px_s1 lv 5 (.int r3)) [.int r7] h5 (c + 6) (s + 36)
  refine Vx.go hC te_368_2237 ?_
  refine ⟨by decide, ?_⟩
  have hl10 := LwS.st (j := 6) (v := .int r7) (by omega) hl4
  show Vx (Ex S 24) S M_368 [] Q1 2239 (px_s1 (px_s1 lv 5 (.int r3)) 6 (.int r7)) [] h5 (c + 6) (s + 36)
  refine Vx.go hC te_368_2239 ?_
  refine ⟨by decide, ?_⟩
  exact Nx _ _ _ _ hl10 hL6 (by omega) (by omega)
theorem lc_45 {S : Nat × (Nat → Int32)} {lv : LV} {h : PH} {c s : Nat} {i : Int32} (hS : S.1 ≤ 3072) (hl : LwS lv i) (hi : 0 ≤ i.toInt ∧ i.toInt + 5 < S.1) (hL : LR h) (hc : c + 8 ≤ 601024) (hs : s + 48 ≤ 7293033) (Nx : ∀ lv' h' c' s', LwS lv' i → LR h' → c' ≤ c + 8 → s' ≤ s + 48 → Vx (Ex S 24) S M_368 [] Q1 2351 lv' [] h' c' s') : Vx (Ex S 24) S M_368 [] Q1 2242 lv [] h c s := by
  have hC := Ex.mono S 24
  refine Vx.go hC te_368_2242 ?_
  refine ⟨_, hl.2.1, ⟨0, Or.inl rfl⟩, ?_⟩
  refine sc_load hC (k := 1) hl te_368_2243 te_368_2244 te_368_2246 te_368_2247 te_368_2248 (sc_in hS hi (by decide)) ?_
  refine Vx.go hC te_368_2249 ?_
  refine ⟨_, hl.2.2.2.1, ⟨173, Or.inl rfl⟩, ?_⟩
  refine Vx.go hC te_368_2250 ?_
  refine Or.inr ⟨by decide, ?_⟩
  refine p_call_mk (av := [.ref 0, .int (S.2 (i + Int32.ofInt 1).toNatClampNeg), .ref 173]) (rest := []) mt_218 rfl (by decide) (show c + 3 ≤ 601024 by omega) (show s + 18 ≤ 7293033 by omega) (fun q => by cases q) ?_
  refine g_218 (n := 6) hL (fun r3 h1 hL2 => ?_)
  show Vx (Ex S 24) S M_368 [] Q1 2253 lv [.int r3] h1 (c + 3) (s + 18)
  refine Vx.go hC te_368_2253 ?_
  refine ⟨by decide, ?_⟩
  have hl4 := LwS.st (j := 5) (v := .int r3) (by omega) hl
  show Vx (Ex S 24) S M_368 [] Q1 2255 (px_s1 lv 5 (.int r3)) [] h1 (c + 3) (s + 18)
  refine Vx.go hC te_368_2255 ?_
  refine ⟨_, hl4.2.2.1, ⟨143, Or.inl rfl⟩, ?_⟩
  refine sc_load hC (k := 1) hl4 te_368_2256 te_368_2257 te_368_2259 te_368_2260 te_368_2261 (sc_in hS hi (by decide)) ?_
  refine Vx.go hC te_368_2262 ?_
  obtain ⟨gs8, gs8g⟩ := hL2.obj (A := 143) rfl
  have hcall9 := ref_call (S := S) (n := 24) (μ := 336) (args := [.inr 143, .inl ((S.2 (i + Int32.ofInt 1).toNatClampNeg) : Int32).toInt]) (h := h1) (fun v hv => by simp only [List.mem_cons, List.not_mem_nil, or_false] at hv; rcases hv with rfl | rfl <;> first | trivial | exact wiI _) hL2 (fun mem hr => f_336 hr (fun r m' a b => ⟨a, b⟩))
  simp only [List.map_cons, List.map_nil, wv, Int32.ofInt_toInt] at hcall9
  refine p_call_mk (av := [.ref 143, .int (S.2 (i + Int32.ofInt 1).toNatClampNeg)]) (rest := []) mt_336 rfl (by decide) (show (c + 3) + 0 ≤ 601024 by omega) (show (s + 18) + 0 ≤ 7293033 by omega) (fun _ => ⟨143, gs8, rfl, gs8g⟩) ?_
  refine hC _ _ _ _ _ ?_ hcall9
  rintro _ h5 ⟨hL6, r7, rfl⟩
  show Vx (Ex S 24) S M_368 [] Q1 2265 (px_s1 lv 5 (.int r3)) [.int r7] h5 (c + 3) (s + 18)
  refine Vx.go hC te_368_2265 ?_
  refine ⟨by decide, ?_⟩
  have hl10 := LwS.st (j := 6) (v := .int r7) (by omega) hl4
  show Vx (Ex S 24) S M_368 [] Q1 2267 (px_s1 (px_s1 lv 5 (.int r3)) 6 (.int r7)) [] h5 (c + 3) (s + 18)
  refine Vx.go hC te_368_2267 ?_
  refine ⟨by decide, ?_⟩
  exact Nx _ _ _ _ hl10 hL6 (by omega) (by omega)
theorem lc_46 {S : Nat × (Nat → Int32)} {lv : LV} {h : PH} {c s : Nat} {i : Int32} (hS : S.1 ≤ 3072) (hl : LwS lv i) (hi : 0 ≤ i.toInt ∧ i.toInt + 5 < S.1) (hL : LR h) (hc : c + 8 ≤ 601024) (hs : s + 48 ≤ 7293033) (Nx : ∀ lv' h' c' s', LwS lv' i → LR h' → c' ≤ c + 8 → s' ≤ s + 48 → Vx (Ex S 24) S M_368 [] Q1 2351 lv' [] h' c' s') : Vx (Ex S 24) S M_368 [] Q1 2270 lv [] h c s := by
  have hC := Ex.mono S 24
  refine Vx.go hC te_368_2270 ?_
  refine ⟨_, hl.2.1, ⟨0, Or.inl rfl⟩, ?_⟩
  refine sc_load hC (k := 1) hl te_368_2271 te_368_2272 te_368_2274 te_368_2275 te_368_2276 (sc_in hS hi (by decide)) ?_
  refine Vx.go hC te_368_2277 ?_
  refine ⟨_, hl.2.2.2.1, ⟨173, Or.inl rfl⟩, ?_⟩
  refine Vx.go hC te_368_2278 ?_
  refine Or.inr ⟨by decide, ?_⟩
  refine p_call_mk (av := [.ref 0, .int (S.2 (i + Int32.ofInt 1).toNatClampNeg), .ref 173]) (rest := []) mt_220 rfl (by decide) (show c + 2 ≤ 601024 by omega) (show s + 12 ≤ 7293033 by omega) (fun q => by cases q) ?_
  refine g_220 (n := 6) hL (fun r3 h1 hL2 => ?_)
  show Vx (Ex S 24) S M_368 [] Q1 2281 lv [.int r3] h1 (c + 2) (s + 12)
  refine Vx.go hC te_368_2281 ?_
  refine ⟨by decide, ?_⟩
  have hl4 := LwS.st (j := 5) (v := .int r3) (by omega) hl
  show Vx (Ex S 24) S M_368 [] Q1 2283 (px_s1 lv 5 (.int r3)) [] h1 (c + 2) (s + 12)
  refine Vx.go hC te_368_2283 ?_
  refine ⟨_, hl4.2.2.1, ⟨143, Or.inl rfl⟩, ?_⟩
  refine sc_load hC (k := 1) hl4 te_368_2284 te_368_2285 te_368_2287 te_368_2288 te_368_2289 (sc_in hS hi (by decide)) ?_
  refine Vx.go hC te_368_2290 ?_
  obtain ⟨gs8, gs8g⟩ := hL2.obj (A := 143) rfl
  have hcall9 := ref_call (S := S) (n := 24) (μ := 357) (args := [.inr 143, .inl ((S.2 (i + Int32.ofInt 1).toNatClampNeg) : Int32).toInt]) (h := h1) (fun v hv => by simp only [List.mem_cons, List.not_mem_nil, or_false] at hv; rcases hv with rfl | rfl <;> first | trivial | exact wiI _) hL2 (fun mem hr => f_357 hr (fun r m' a b => ⟨a, b⟩))
  simp only [List.map_cons, List.map_nil, wv, Int32.ofInt_toInt] at hcall9
  refine p_call_mk (av := [.ref 143, .int (S.2 (i + Int32.ofInt 1).toNatClampNeg)]) (rest := []) mt_357 rfl (by decide) (show (c + 2) + 0 ≤ 601024 by omega) (show (s + 12) + 0 ≤ 7293033 by omega) (fun _ => ⟨143, gs8, rfl, gs8g⟩) ?_
  refine hC _ _ _ _ _ ?_ hcall9
  rintro _ h5 ⟨hL6, r7, rfl⟩
  show Vx (Ex S 24) S M_368 [] Q1 2293 (px_s1 lv 5 (.int r3)) [.int r7] h5 (c + 2) (s + 12)
  refine Vx.go hC te_368_2293 ?_
  refine ⟨by decide, ?_⟩
  have hl10 := LwS.st (j := 6) (v := .int r7) (by omega) hl4
  show Vx (Ex S 24) S M_368 [] Q1 2295 (px_s1 (px_s1 lv 5 (.int r3)) 6 (.int r7)) [] h5 (c + 2) (s + 12)
  refine Vx.go hC te_368_2295 ?_
  refine ⟨by decide, ?_⟩
  exact Nx _ _ _ _ hl10 hL6 (by omega) (by omega)
end
section
/-! laid by wip/hand/lw.py: cases of the law -/
theorem te_368_2298 : (pT M_368).find? (fun e => e.1 == 2298) = some (2298, .aload_n 1, 0, 0) := (sk_120 2298 rfl).trans rfl
theorem te_368_2299 : (pT M_368).find? (fun e => e.1 == 2299) = some (2299, .aload_n 0, 0, 0) := (sk_121 2299 rfl).trans rfl
theorem te_368_2300 : (pT M_368).find? (fun e => e.1 == 2300) = some (2300, .iload 4, 0, 0) := (sk_121 2300 rfl).trans rfl
theorem te_368_2302 : (pT M_368).find? (fun e => e.1 == 2302) = some (2302, .iconst 1, 0, 0) := (sk_121 2302 rfl).trans rfl
theorem te_368_2303 : (pT M_368).find? (fun e => e.1 == 2303) = some (2303, .iadd, 0, 0) := (sk_121 2303 rfl).trans rfl
theorem te_368_2304 : (pT M_368).find? (fun e => e.1 == 2304) = some (2304, .iaload, 0, 0) := (sk_121 2304 rfl).trans rfl
theorem te_368_2305 : (pT M_368).find? (fun e => e.1 == 2305) = some (2305, .aload_n 3, 0, 0) := (sk_121 2305 rfl).trans rfl
theorem te_368_2306 : (pT M_368).find? (fun e => e.1 == 2306) = some (2306, .invokestatic 333, 222, 8) := (sk_121 2306 rfl).trans rfl
theorem te_368_2309 : (pT M_368).find? (fun e => e.1 == 2309) = some (2309, .istore 5, 0, 0) := (sk_121 2309 rfl).trans rfl
theorem te_368_2311 : (pT M_368).find? (fun e => e.1 == 2311) = some (2311, .aload_n 2, 0, 0) := (sk_121 2311 rfl).trans rfl
theorem te_368_2312 : (pT M_368).find? (fun e => e.1 == 2312) = some (2312, .aload_n 0, 0, 0) := (sk_121 2312 rfl).trans rfl
theorem te_368_2313 : (pT M_368).find? (fun e => e.1 == 2313) = some (2313, .iload 4, 0, 0) := (sk_121 2313 rfl).trans rfl
theorem te_368_2315 : (pT M_368).find? (fun e => e.1 == 2315) = some (2315, .iconst 1, 0, 0) := (sk_121 2315 rfl).trans rfl
theorem te_368_2316 : (pT M_368).find? (fun e => e.1 == 2316) = some (2316, .iadd, 0, 0) := (sk_122 2316 rfl).trans rfl
theorem te_368_2317 : (pT M_368).find? (fun e => e.1 == 2317) = some (2317, .iaload, 0, 0) := (sk_122 2317 rfl).trans rfl
theorem te_368_2318 : (pT M_368).find? (fun e => e.1 == 2318) = some (2318, .invokevirtual 335, 358, 0) := (sk_122 2318 rfl).trans rfl
theorem te_368_2321 : (pT M_368).find? (fun e => e.1 == 2321) = some (2321, .istore 6, 0, 0) := (sk_122 2321 rfl).trans rfl
theorem te_368_2323 : (pT M_368).find? (fun e => e.1 == 2323) = some (2323, .goto 28, 0, 0) := (sk_122 2323 rfl).trans rfl
theorem te_368_2326 : (pT M_368).find? (fun e => e.1 == 2326) = some (2326, .aload_n 1, 0, 0) := (sk_122 2326 rfl).trans rfl
theorem te_368_2327 : (pT M_368).find? (fun e => e.1 == 2327) = some (2327, .aload_n 0, 0, 0) := (sk_122 2327 rfl).trans rfl
theorem te_368_2328 : (pT M_368).find? (fun e => e.1 == 2328) = some (2328, .iload 4, 0, 0) := (sk_122 2328 rfl).trans rfl
theorem te_368_2330 : (pT M_368).find? (fun e => e.1 == 2330) = some (2330, .iconst 1, 0, 0) := (sk_122 2330 rfl).trans rfl
theorem te_368_2331 : (pT M_368).find? (fun e => e.1 == 2331) = some (2331, .iadd, 0, 0) := (sk_122 2331 rfl).trans rfl
theorem te_368_2332 : (pT M_368).find? (fun e => e.1 == 2332) = some (2332, .iaload, 0, 0) := (sk_122 2332 rfl).trans rfl
theorem te_368_2333 : (pT M_368).find? (fun e => e.1 == 2333) = some (2333, .invokevirtual 336, 31, 0) := (sk_122 2333 rfl).trans rfl
theorem te_368_2336 : (pT M_368).find? (fun e => e.1 == 2336) = some (2336, .pop, 0, 0) := (sk_123 2336 rfl).trans rfl
theorem te_368_2337 : (pT M_368).find? (fun e => e.1 == 2337) = some (2337, .aload_n 2, 0, 0) := (sk_123 2337 rfl).trans rfl
theorem te_368_2338 : (pT M_368).find? (fun e => e.1 == 2338) = some (2338, .aload_n 0, 0, 0) := (sk_123 2338 rfl).trans rfl
theorem te_368_2339 : (pT M_368).find? (fun e => e.1 == 2339) = some (2339, .iload 4, 0, 0) := (sk_123 2339 rfl).trans rfl
theorem te_368_2341 : (pT M_368).find? (fun e => e.1 == 2341) = some (2341, .iconst 1, 0, 0) := (sk_123 2341 rfl).trans rfl
theorem te_368_2342 : (pT M_368).find? (fun e => e.1 == 2342) = some (2342, .iadd, 0, 0) := (sk_123 2342 rfl).trans rfl
theorem te_368_2343 : (pT M_368).find? (fun e => e.1 == 2343) = some (2343, .iaload, 0, 0) := (sk_123 2343 rfl).trans rfl
theorem te_368_2344 : (pT M_368).find? (fun e => e.1 == 2344) = some (2344, .invokevirtual 339, 366, 0) := (sk_123 2344 rfl).trans rfl
theorem te_368_2347 : (pT M_368).find? (fun e => e.1 == 2347) = some (2347, .pop, 0, 0) := (sk_123 2347 rfl).trans rfl
theorem te_368_2348 : (pT M_368).find? (fun e => e.1 == 2348) = some (2348, .goto 3, 0, 0) := (sk_123 2348 rfl).trans rfl
theorem lc_47 {S : Nat × (Nat → Int32)} {lv : LV} {h : PH} {c s : Nat} {i : Int32} (hS : S.1 ≤ 3072) (hl : LwS lv i) (hi : 0 ≤ i.toInt ∧ i.toInt + 5 < S.1) (hL : LR h) (hc : c + 8 ≤ 601024) (hs : s + 48 ≤ 7293033) (Nx : ∀ lv' h' c' s', LwS lv' i → LR h' → c' ≤ c + 8 → s' ≤ s + 48 → Vx (Ex S 24) S M_368 [] Q1 2351 lv' [] h' c' s') : Vx (Ex S 24) S M_368 [] Q1 2298 lv [] h c s := by
  have hC := Ex.mono S 24
  refine Vx.go hC te_368_2298 ?_
  refine ⟨_, hl.2.1, ⟨0, Or.inl rfl⟩, ?_⟩
  refine sc_load hC (k := 1) hl te_368_2299 te_368_2300 te_368_2302 te_368_2303 te_368_2304 (sc_in hS hi (by decide)) ?_
  refine Vx.go hC te_368_2305 ?_
  refine ⟨_, hl.2.2.2.1, ⟨173, Or.inl rfl⟩, ?_⟩
  refine Vx.go hC te_368_2306 ?_
  refine Or.inr ⟨by decide, ?_⟩
  refine p_call_mk (av := [.ref 0, .int (S.2 (i + Int32.ofInt 1).toNatClampNeg), .ref 173]) (rest := []) mt_222 rfl (by decide) (show c + 2 ≤ 601024 by omega) (show s + 12 ≤ 7293033 by omega) (fun q => by cases q) ?_
  refine g_222 (n := 6) hL (fun r3 h1 hL2 => ?_)
  show Vx (Ex S 24) S M_368 [] Q1 2309 lv [.int r3] h1 (c + 2) (s + 12)
  refine Vx.go hC te_368_2309 ?_
  refine ⟨by decide, ?_⟩
  have hl4 := LwS.st (j := 5) (v := .int r3) (by omega) hl
  show Vx (Ex S 24) S M_368 [] Q1 2311 (px_s1 lv 5 (.int r3)) [] h1 (c + 2) (s + 12)
  refine Vx.go hC te_368_2311 ?_
  refine ⟨_, hl4.2.2.1, ⟨143, Or.inl rfl⟩, ?_⟩
  refine sc_load hC (k := 1) hl4 te_368_2312 te_368_2313 te_368_2315 te_368_2316 te_368_2317 (sc_in hS hi (by decide)) ?_
  refine Vx.go hC te_368_2318 ?_
  obtain ⟨gs8, gs8g⟩ := hL2.obj (A := 143) rfl
  have hcall9 := ref_call (S := S) (n := 24) (μ := 358) (args := [.inr 143, .inl ((S.2 (i + Int32.ofInt 1).toNatClampNeg) : Int32).toInt]) (h := h1) (fun v hv => by simp only [List.mem_cons, List.not_mem_nil, or_false] at hv; rcases hv with rfl | rfl <;> first | trivial | exact wiI _) hL2 (fun mem hr => f_358 hr (fun r m' a b => ⟨a, b⟩))
  simp only [List.map_cons, List.map_nil, wv, Int32.ofInt_toInt] at hcall9
  refine p_call_mk (av := [.ref 143, .int (S.2 (i + Int32.ofInt 1).toNatClampNeg)]) (rest := []) mt_358 rfl (by decide) (show (c + 2) + 0 ≤ 601024 by omega) (show (s + 12) + 0 ≤ 7293033 by omega) (fun _ => ⟨143, gs8, rfl, gs8g⟩) ?_
  refine hC _ _ _ _ _ ?_ hcall9
  rintro _ h5 ⟨hL6, r7, rfl⟩
  show Vx (Ex S 24) S M_368 [] Q1 2321 (px_s1 lv 5 (.int r3)) [.int r7] h5 (c + 2) (s + 12)
  refine Vx.go hC te_368_2321 ?_
  refine ⟨by decide, ?_⟩
  have hl10 := LwS.st (j := 6) (v := .int r7) (by omega) hl4
  show Vx (Ex S 24) S M_368 [] Q1 2323 (px_s1 (px_s1 lv 5 (.int r3)) 6 (.int r7)) [] h5 (c + 2) (s + 12)
  refine Vx.go hC te_368_2323 ?_
  refine ⟨by decide, ?_⟩
  exact Nx _ _ _ _ hl10 hL6 (by omega) (by omega)
theorem lc_48 {S : Nat × (Nat → Int32)} {lv : LV} {h : PH} {c s : Nat} {i : Int32} (hS : S.1 ≤ 3072) (hl : LwS lv i) (hi : 0 ≤ i.toInt ∧ i.toInt + 5 < S.1) (hL : LR h) (hc : c + 8 ≤ 601024) (hs : s + 48 ≤ 7293033) (Nx : ∀ lv' h' c' s', LwS lv' i → LR h' → c' ≤ c + 8 → s' ≤ s + 48 → Vx (Ex S 24) S M_368 [] Q1 2351 lv' [] h' c' s') : Vx (Ex S 24) S M_368 [] Q1 2326 lv [] h c s := by
  have hC := Ex.mono S 24
  refine Vx.go hC te_368_2326 ?_
  refine ⟨_, hl.2.1, ⟨0, Or.inl rfl⟩, ?_⟩
  refine sc_load hC (k := 1) hl te_368_2327 te_368_2328 te_368_2330 te_368_2331 te_368_2332 (sc_in hS hi (by decide)) ?_
  refine Vx.go hC te_368_2333 ?_
  obtain ⟨gs4, gs4g⟩ := hL.obj (A := 0) rfl
  have hcall5 := cls_call (S := S) (n := 24) (μ := 31) (args := [.inr 0, .inl ((S.2 (i + Int32.ofInt 1).toNatClampNeg) : Int32).toInt]) (h := h) (es := fun _ => False) (fun v hv => by simp only [List.mem_cons, List.not_mem_nil, or_false] at hv; rcases hv with rfl | rfl <;> first | trivial | exact wiI _) hL (fun mem hr => f_31 hr (fun r m' a b => ⟨a, b⟩))
  simp only [List.map_cons, List.map_nil, wv, Int32.ofInt_toInt] at hcall5
  refine p_call_mk (av := [.ref 0, .int (S.2 (i + Int32.ofInt 1).toNatClampNeg)]) (rest := []) mt_31 rfl (by decide) (show c + 0 ≤ 601024 by omega) (show s + 0 ≤ 7293033 by omega) (fun _ => ⟨0, gs4, rfl, gs4g⟩) ?_
  refine hC _ _ _ _ _ ?_ hcall5
  rintro _ h1 ⟨hL2, hor⟩
  obtain ⟨r3, rfl⟩ := hor.resolve_right (fun ⟨_, q, _⟩ => q)
  show Vx (Ex S 24) S M_368 [] Q1 2336 lv [.int r3] h1 c s
  refine Vx.go hC te_368_2336 ?_
  refine ⟨_, _, rfl, rfl, ?_⟩
  show Vx (Ex S 24) S M_368 [] Q1 2337 lv [] h1 c s
  refine Vx.go hC te_368_2337 ?_
  refine ⟨_, hl.2.2.1, ⟨143, Or.inl rfl⟩, ?_⟩
  refine sc_load hC (k := 1) hl te_368_2338 te_368_2339 te_368_2341 te_368_2342 te_368_2343 (sc_in hS hi (by decide)) ?_
  refine Vx.go hC te_368_2344 ?_
  obtain ⟨gs9, gs9g⟩ := hL2.obj (A := 143) rfl
  have hcall10 := ref_call (S := S) (n := 24) (μ := 366) (args := [.inr 143, .inl ((S.2 (i + Int32.ofInt 1).toNatClampNeg) : Int32).toInt]) (h := h1) (fun v hv => by simp only [List.mem_cons, List.not_mem_nil, or_false] at hv; rcases hv with rfl | rfl <;> first | trivial | exact wiI _) hL2 (fun mem hr => f_366 hr (fun r m' a b => ⟨a, b⟩))
  simp only [List.map_cons, List.map_nil, wv, Int32.ofInt_toInt] at hcall10
  refine p_call_mk (av := [.ref 143, .int (S.2 (i + Int32.ofInt 1).toNatClampNeg)]) (rest := []) mt_366 rfl (by decide) (show c + 0 ≤ 601024 by omega) (show s + 0 ≤ 7293033 by omega) (fun _ => ⟨143, gs9, rfl, gs9g⟩) ?_
  refine hC _ _ _ _ _ ?_ hcall10
  rintro _ h6 ⟨hL7, r8, rfl⟩
  show Vx (Ex S 24) S M_368 [] Q1 2347 lv [.int r8] h6 c s
  refine Vx.go hC te_368_2347 ?_
  refine ⟨_, _, rfl, rfl, ?_⟩
  show Vx (Ex S 24) S M_368 [] Q1 2348 lv [] h6 c s
  refine Vx.go hC te_368_2348 ?_
  refine ⟨by decide, ?_⟩
  exact Nx _ _ _ _ hl hL7 (by omega) (by omega)
end
section
/-! reckon on both sides -/
def Hf0 (p0 p1 p2 p3 p4 t y : Int) (m' : MM) : Prop := ClS m' ∧ RefOK m' ∧ ∃ m, RelB m ∧ ((t = 0 ∧ ((0 ≤ p0 ∧ p0 < 4) ∧ srcX p1 p2 ∧ srcX p3 p4) ∧ m 1 0 < 8 ∧ y = m 1 0 ∧ m' = upm (putM m (m 1 0).toNat p0 p1 p2 p3 p4) 0 11 1) ∨ (t = 1 ∧ ¬ ((0 ≤ p0 ∧ p0 < 4) ∧ srcX p1 p2 ∧ srcX p3 p4) ∧ m' = m) ∨ (t = 2 ∧ ((0 ≤ p0 ∧ p0 < 4) ∧ srcX p1 p2 ∧ srcX p3 p4) ∧ ¬ m 1 0 < 8 ∧ m' = m))
theorem cl0 {S : Nat × (Nat → Int32)} {n : Nat} {m : MM} {p0 p1 p2 p3 p4 : Int} (hc : ClS m) (hr : RefOK m) (hb : RelB m) : CQI (Ex S (n + 3)) 44 [.inr 0, .inl p0, .inl p1, .inl p2, .inl p3, .inl p4] m (fun y m' => Hf0 p0 p1 p2 p3 p4 0 y m') (fun e m' => (e = 0 ∧ Hf0 p0 p1 p2 p3 p4 1 0 m') ∨ (e = 1 ∧ Hf0 p0 p1 p2 p3 p4 2 0 m')) :=
  f_44x hc (fun q h8 r m' er hc' em => ⟨hc', hr.fr (fun A i a b => by rw [em]; unfold putM; repeat rw [upm_ne (by omega)]), m, hb, Or.inl ⟨rfl, q, h8, er, em⟩⟩) (fun q => Or.inl ⟨rfl, hc, hr, m, hb, Or.inr (Or.inl ⟨rfl, q, rfl⟩)⟩) (fun q h8 => Or.inr ⟨rfl, hc, hr, m, hb, Or.inr (Or.inr ⟨rfl, q, h8, rfl⟩)⟩)
theorem rf0 {S : Nat × (Nat → Int32)} {n : Nat} {m' : MM} {p0 p1 p2 p3 p4 t y : Int} (H : Hf0 p0 p1 p2 p3 p4 t y m') : CQI (Ex S (n + 3)) 226 [.inr 143, .inl p0, .inl p1, .inl p2, .inl p3, .inl p4] m' (fun r m2 => ClS m2 ∧ RefOK m2 ∧ RelB m2 ∧ m2 143 0 = t ∧ (t = 0 → r = y)) (fun _ _ => False) := by
  obtain ⟨hc, hr, m, hb, H⟩ := H
  have h8 : 0 ≤ m' 143 1 ∧ m' 143 1 ≤ 8 := hr.ops.1
  have hz := hb.1
  have e1 : m' 143 1 = m 143 1 := by
    rcases H with ⟨-, -, -, -, e⟩ | ⟨-, -, e⟩ | ⟨-, -, -, e⟩ <;> rw [e]
    unfold putM
    repeat rw [upm_ne (by omega)]
  refine f_226x h8 (fun q l r m2 er em => ?_) (fun q => ?_) (fun q l => ?_)
  · rcases H with ⟨rfl, q', l', ey, e⟩ | ⟨rfl, q', e⟩ | ⟨rfl, q', l', e⟩
    · have en : (m' 143 1).toNat = (m 1 0).toNat := by rw [e1, hz]
      refine ⟨hc.ref (fun A i w => ?_), ?_, ?_, ?_, fun _ => by rw [er, ey, e1, hz]⟩
      · unfold pRf at w
        rw [em]; unfold addM
        repeat rw [upm_ne (by omega)]
      · rw [em]
        have es : upm m' 143 0 0 143 1 = m' 143 1 := upm_ne (by omega)
        refine RefOK.add (hr.th' (by omega)) (by rw [es]; omega) (by rw [es]; exact l) (by omega) (fun _ => ⟨q.2.1.ok, q.2.2.ok⟩) (fun z => by omega) (fun z => by omega) ?_
        have := q.2.2
        unfold srcX at this
        omega
      · rw [em, en]
        refine RelB.add hb (by omega) (fun A i a b => ?_)
        rw [upm_ne (by omega), e, upm_ne (by omega)]
      · rw [em]; unfold addM
        repeat rw [upm_ne (by omega)]
        exact upm_eq
    · exact absurd q q'
    · omega
  · rcases H with ⟨rfl, q', l', ey, e⟩ | ⟨rfl, q', e⟩ | ⟨rfl, q', l', e⟩
    · exact absurd q' q
    · subst e
      exact ⟨hc.ref (fun A i w => upm_ne (by unfold pRf at w; omega)), hr.th' (by omega), hb.one (by omega), upm_eq, fun z => by omega⟩
    · exact absurd q' q
  · rcases H with ⟨rfl, q', l', ey, e⟩ | ⟨rfl, q', e⟩ | ⟨rfl, q', l', e⟩
    · omega
    · exact absurd q q'
    · subst e
      exact ⟨hc.ref (fun A i w => upm_ne (by unfold pRf at w; omega)), hr.th' (by omega), hb.one (by omega), upm_eq, fun z => by omega⟩
end
section
/-! load, store, drop, first, kind, unit on both sides (wip/hand/pair.py) -/
def Hf1 (p0 p1 t y : Int) (m' : MM) : Prop := ClS m' ∧ RefOK m' ∧ ∃ m, RelB m ∧ ((t = 0 ∧ (rowX p0 p1) ∧ m 1 0 < 8 ∧ y = m 1 0 ∧ m' = upm (putM m (m 1 0).toNat 4 p0 p1 0 0) 0 11 1) ∨ (t = 1 ∧ ¬ (rowX p0 p1) ∧ m' = m) ∨ (t = 2 ∧ (rowX p0 p1) ∧ ¬ m 1 0 < 8 ∧ m' = m))
theorem cl1 {S : Nat × (Nat → Int32)} {n : Nat} {m : MM} {p0 p1 : Int} (hc : ClS m) (hr : RefOK m) (hb : RelB m) : CQI (Ex S (n + 3)) 49 [.inr 0, .inl p0, .inl p1] m (fun y m' => Hf1 p0 p1 0 y m') (fun e m' => (e = 0 ∧ Hf1 p0 p1 1 0 m') ∨ (e = 1 ∧ Hf1 p0 p1 2 0 m')) :=
  f_49x hc (fun q h8 r m' er hc' em => ⟨hc', hr.fr (fun A i a b => by rw [em]; unfold putM; repeat rw [upm_ne (by omega)]), m, hb, Or.inl ⟨rfl, q, h8, er, em⟩⟩) (fun q => Or.inl ⟨rfl, hc, hr, m, hb, Or.inr (Or.inl ⟨rfl, q, rfl⟩)⟩) (fun q h8 => Or.inr ⟨rfl, hc, hr, m, hb, Or.inr (Or.inr ⟨rfl, q, h8, rfl⟩)⟩)
theorem rf1 {S : Nat × (Nat → Int32)} {n : Nat} {m' : MM} {p0 p1 t y : Int} (H : Hf1 p0 p1 t y m') : CQI (Ex S (n + 3)) 230 [.inr 143, .inl p0, .inl p1] m' (fun r m2 => ClS m2 ∧ RefOK m2 ∧ RelB m2 ∧ m2 143 0 = t ∧ (t = 0 → r = y)) (fun _ _ => False) := by
  obtain ⟨hc, hr, m, hb, H⟩ := H
  have h8 : 0 ≤ m' 143 1 ∧ m' 143 1 ≤ 8 := hr.ops.1
  have hz := hb.1
  have e1 : m' 143 1 = m 143 1 := by
    rcases H with ⟨-, -, -, -, e⟩ | ⟨-, -, e⟩ | ⟨-, -, -, e⟩ <;> rw [e]
    unfold putM
    repeat rw [upm_ne (by omega)]
  refine f_230x h8 (fun q l r m2 er em => ?_) (fun q => ?_) (fun q l => ?_)
  · rcases H with ⟨rfl, q', l', ey, e⟩ | ⟨rfl, q', e⟩ | ⟨rfl, q', l', e⟩
    · have en : (m' 143 1).toNat = (m 1 0).toNat := by rw [e1, hz]
      refine ⟨hc.ref (fun A i w => ?_), ?_, ?_, ?_, fun _ => by rw [er, ey, e1, hz]⟩
      · unfold pRf at w
        rw [em]; unfold addM
        repeat rw [upm_ne (by omega)]
      · rw [em]
        have es : upm m' 143 0 0 143 1 = m' 143 1 := upm_ne (by omega)
        refine RefOK.add (hr.th' (by omega)) (by rw [es]; omega) (by rw [es]; exact l) (by omega) (fun z => by omega) (fun _ => q.w) (fun z => by omega) ?_
        omega
      · rw [em, en]
        refine RelB.add hb (by omega) (fun A i a b => ?_)
        rw [upm_ne (by omega), e, upm_ne (by omega)]
      · rw [em]; unfold addM
        repeat rw [upm_ne (by omega)]
        exact upm_eq
    · exact absurd q q'
    · omega
  · rcases H with ⟨rfl, q', l', ey, e⟩ | ⟨rfl, q', e⟩ | ⟨rfl, q', l', e⟩
    · exact absurd q' q
    · subst e
      exact ⟨hc.ref (fun A i w => upm_ne (by unfold pRf at w; omega)), hr.th' (by omega), hb.one (by omega), upm_eq, fun z => by omega⟩
    · exact absurd q' q
  · rcases H with ⟨rfl, q', l', ey, e⟩ | ⟨rfl, q', e⟩ | ⟨rfl, q', l', e⟩
    · omega
    · exact absurd q q'
    · subst e
      exact ⟨hc.ref (fun A i w => upm_ne (by unfold pRf at w; omega)), hr.th' (by omega), hb.one (by omega), upm_eq, fun z => by omega⟩
def Hf2 (p0 p1 p2 p3 t y : Int) (m' : MM) : Prop := ClS m' ∧ RefOK m' ∧ ∃ m, RelB m ∧ ((t = 0 ∧ (srcX p0 p1 ∧ rowX p2 p3) ∧ m 1 0 < 8 ∧ y = m 1 0 ∧ m' = upm (putM m (m 1 0).toNat 5 p0 p1 p2 p3) 0 11 1) ∨ (t = 1 ∧ ¬ (srcX p0 p1 ∧ rowX p2 p3) ∧ m' = m) ∨ (t = 2 ∧ (srcX p0 p1 ∧ rowX p2 p3) ∧ ¬ m 1 0 < 8 ∧ m' = m))
theorem cl2 {S : Nat × (Nat → Int32)} {n : Nat} {m : MM} {p0 p1 p2 p3 : Int} (hc : ClS m) (hr : RefOK m) (hb : RelB m) : CQI (Ex S (n + 3)) 52 [.inr 0, .inl p0, .inl p1, .inl p2, .inl p3] m (fun y m' => Hf2 p0 p1 p2 p3 0 y m') (fun e m' => (e = 0 ∧ Hf2 p0 p1 p2 p3 1 0 m') ∨ (e = 1 ∧ Hf2 p0 p1 p2 p3 2 0 m')) :=
  f_52x hc (fun q h8 r m' er hc' em => ⟨hc', hr.fr (fun A i a b => by rw [em]; unfold putM; repeat rw [upm_ne (by omega)]), m, hb, Or.inl ⟨rfl, q, h8, er, em⟩⟩) (fun q => Or.inl ⟨rfl, hc, hr, m, hb, Or.inr (Or.inl ⟨rfl, q, rfl⟩)⟩) (fun q h8 => Or.inr ⟨rfl, hc, hr, m, hb, Or.inr (Or.inr ⟨rfl, q, h8, rfl⟩)⟩)
theorem rf2 {S : Nat × (Nat → Int32)} {n : Nat} {m' : MM} {p0 p1 p2 p3 t y : Int} (H : Hf2 p0 p1 p2 p3 t y m') : CQI (Ex S (n + 3)) 232 [.inr 143, .inl p0, .inl p1, .inl p2, .inl p3] m' (fun r m2 => ClS m2 ∧ RefOK m2 ∧ RelB m2 ∧ m2 143 0 = t ∧ (t = 0 → r = y)) (fun _ _ => False) := by
  obtain ⟨hc, hr, m, hb, H⟩ := H
  have h8 : 0 ≤ m' 143 1 ∧ m' 143 1 ≤ 8 := hr.ops.1
  have hz := hb.1
  have e1 : m' 143 1 = m 143 1 := by
    rcases H with ⟨-, -, -, -, e⟩ | ⟨-, -, e⟩ | ⟨-, -, -, e⟩ <;> rw [e]
    unfold putM
    repeat rw [upm_ne (by omega)]
  refine f_232x h8 (fun q l r m2 er em => ?_) (fun q => ?_) (fun q l => ?_)
  · rcases H with ⟨rfl, q', l', ey, e⟩ | ⟨rfl, q', e⟩ | ⟨rfl, q', l', e⟩
    · have en : (m' 143 1).toNat = (m 1 0).toNat := by rw [e1, hz]
      refine ⟨hc.ref (fun A i w => ?_), ?_, ?_, ?_, fun _ => by rw [er, ey, e1, hz]⟩
      · unfold pRf at w
        rw [em]; unfold addM
        repeat rw [upm_ne (by omega)]
      · rw [em]
        have es : upm m' 143 0 0 143 1 = m' 143 1 := upm_ne (by omega)
        refine RefOK.add (hr.th' (by omega)) (by rw [es]; omega) (by rw [es]; exact l) (by omega) (fun z => by omega) (fun z => by omega) (fun _ => ⟨q.1.ok, q.2.w⟩) ?_
        have := q.2.w; omega
      · rw [em, en]
        refine RelB.add hb (by omega) (fun A i a b => ?_)
        rw [upm_ne (by omega), e, upm_ne (by omega)]
      · rw [em]; unfold addM
        repeat rw [upm_ne (by omega)]
        exact upm_eq
    · exact absurd q q'
    · omega
  · rcases H with ⟨rfl, q', l', ey, e⟩ | ⟨rfl, q', e⟩ | ⟨rfl, q', l', e⟩
    · exact absurd q' q
    · subst e
      exact ⟨hc.ref (fun A i w => upm_ne (by unfold pRf at w; omega)), hr.th' (by omega), hb.one (by omega), upm_eq, fun z => by omega⟩
    · exact absurd q' q
  · rcases H with ⟨rfl, q', l', ey, e⟩ | ⟨rfl, q', e⟩ | ⟨rfl, q', l', e⟩
    · omega
    · exact absurd q q'
    · subst e
      exact ⟨hc.ref (fun A i w => upm_ne (by unfold pRf at w; omega)), hr.th' (by omega), hb.one (by omega), upm_eq, fun z => by omega⟩
def Hf3 (t y : Int) (m' : MM) : Prop := ClS m' ∧ RefOK m' ∧ ∃ m, RelB m ∧ ((t = 0 ∧ 0 < m 1 0 ∧ y = m 1 0 - 1 ∧ m' = upm (upm m 1 0 (m 1 0 - 1)) 0 11 1) ∨ (t = 1 ∧ ¬ 0 < m 1 0 ∧ m' = m))
theorem cl3 {S : Nat × (Nat → Int32)} {n : Nat} {m : MM} (hc : ClS m) (hr : RefOK m) (hb : RelB m) : CQI (Ex S (n + 3)) 54 [.inr 0] m (fun y m' => Hf3 0 y m') (fun e m' => (e = 1 ∧ Hf3 1 0 m')) :=
  f_54x hc (fun q r m' er hc' em => ⟨hc', hr.fr (fun A i a b => by rw [em]; repeat rw [upm_ne (by omega)]), m, hb, Or.inl ⟨rfl, q, er, em⟩⟩) (fun q => ⟨rfl, hc, hr, m, hb, Or.inr ⟨rfl, q, rfl⟩⟩)
theorem rf3 {S : Nat × (Nat → Int32)} {n : Nat} {m' : MM} {t y : Int} (H : Hf3 t y m') : CQI (Ex S (n + 3)) 233 [.inr 143] m' (fun r m2 => ClS m2 ∧ RefOK m2 ∧ RelB m2 ∧ m2 143 0 = t ∧ (t = 0 → r = y)) (fun _ _ => False) := by
  obtain ⟨hc, hr, m, hb, H⟩ := H
  have h8 : 0 ≤ m' 143 1 ∧ m' 143 1 ≤ 8 := hr.ops.1
  have hz := hb.1
  have e1 : m' 143 1 = m 143 1 := by
    rcases H with ⟨-, -, -, e⟩ | ⟨-, -, e⟩ <;> rw [e]
    repeat rw [upm_ne (by omega)]
  refine f_233x h8 (fun q r m2 er em => ?_) (fun q => ?_)
  · rcases H with ⟨rfl, q', ey, e⟩ | ⟨rfl, q', e⟩
    · refine ⟨hc.ref (fun A i w => ?_), ?_, ?_, ?_, fun _ => by rw [er, ey, e1, hz]⟩
      · unfold pRf at w
        rw [em]
        repeat rw [upm_ne (by omega)]
      · rw [em]
        exact RefOK.up (hr.th' (by omega)) (Or.inl ⟨rfl, rfl, by omega, by omega⟩)
      · rw [em, e1]
        refine RelB.size (z := m 1 0 - 1) hb ?_ ?_ (fun A i w => ?_)
        · rw [upm_ne (by omega), upm_ne (by omega), e, upm_ne (by omega), upm_eq]
        · rw [upm_eq, hz]
        · rw [upm_ne (by omega), upm_ne (by omega), e, upm_ne (by omega), upm_ne (by omega)]
      · rw [em, upm_ne (by omega), upm_eq]
    · omega
  · rcases H with ⟨rfl, q', ey, e⟩ | ⟨rfl, q', e⟩
    · omega
    · subst e
      exact ⟨hc.ref (fun A i w => upm_ne (by unfold pRf at w; omega)), hr.th' (by omega), hb.one (by omega), upm_eq, fun z => by omega⟩
def Hf4 (p0 p1 t y : Int) (m' : MM) : Prop := ClS m' ∧ RefOK m' ∧ ∃ m, RelB m ∧ ((t = 0 ∧ (0 ≤ p0 ∧ p0 < m 1 0) ∧ (-9999 ≤ p1 ∧ p1 ≤ 9999) ∧ y = m 4 p0.toNat ∧ m' = upm m 4 p0.toNat p1) ∨ (t = 1 ∧ ¬ (0 ≤ p0 ∧ p0 < m 1 0) ∧ m' = m) ∨ (t = 2 ∧ (0 ≤ p0 ∧ p0 < m 1 0) ∧ ¬ (-9999 ≤ p1 ∧ p1 ≤ 9999) ∧ m' = m))
theorem cl4 {S : Nat × (Nat → Int32)} {n : Nat} {m : MM} {p0 p1 : Int} (hc : ClS m) (hr : RefOK m) (hb : RelB m) : CQI (Ex S (n + 3)) 56 [.inr 0, .inl p0, .inl p1] m (fun y m' => Hf4 p0 p1 0 y m') (fun e m' => (e = 2 ∧ Hf4 p0 p1 1 0 m') ∨ (e = 0 ∧ Hf4 p0 p1 2 0 m')) :=
  f_56x (n := n + 1) hc (fun q l r m' er hc' em => ⟨hc', hr.fr (fun A i a b => by rw [em]; repeat rw [upm_ne (by omega)]), m, hb, Or.inl ⟨rfl, q, l, er, em⟩⟩) (fun q => Or.inl ⟨rfl, hc, hr, m, hb, Or.inr (Or.inl ⟨rfl, q, rfl⟩)⟩) (fun q l => Or.inr ⟨rfl, hc, hr, m, hb, Or.inr (Or.inr ⟨rfl, q, l, rfl⟩)⟩)
theorem rf4 {S : Nat × (Nat → Int32)} {n : Nat} {m' : MM} {p0 p1 t y : Int} (H : Hf4 p0 p1 t y m') : CQI (Ex S (n + 4)) 234 [.inr 143, .inl p0, .inl p1] m' (fun r m2 => ClS m2 ∧ RefOK m2 ∧ RelB m2 ∧ m2 143 0 = t ∧ (t = 0 → r = y)) (fun _ _ => False) := by
  obtain ⟨hc, hr, m, hb, H⟩ := H
  have h8 : 0 ≤ m' 143 1 ∧ m' 143 1 ≤ 8 := hr.ops.1
  have hz := hb.1
  have e1 : m' 143 1 = m 143 1 := by
    rcases H with ⟨-, -, -, -, e⟩ | ⟨-, -, e⟩ | ⟨-, -, -, e⟩ <;> rw [e]
    repeat rw [upm_ne (by omega)]
  refine f_234x h8 (fun q l r m2 er em => ?_) (fun q => ?_) (fun q l => ?_)
  · rcases H with ⟨rfl, q', l', ey, e⟩ | ⟨rfl, q', e⟩ | ⟨rfl, q', l', e⟩
    · have er2 : m' 149 p0.toNat = m 149 p0.toNat := by
        rw [e]
        repeat rw [upm_ne (by omega)]
      have er3 : m 149 p0.toNat = m 4 p0.toNat := (hb.2.1 p0.toNat (by omega)).2.2.2.2.2.symm
      refine ⟨hc.ref (fun A i w => ?_), ?_, ?_, ?_, fun _ => by rw [er, ey, er2, er3]⟩
      · unfold pRf at w
        rw [em]
        repeat rw [upm_ne (by omega)]
      · rw [em]
        exact RefOK.up (hr.th' (by omega)) (by omega)
      · rw [em]
        refine RelB.row (A := 4) (B := 149) hb (by omega) (fun C j a b => ?_)
        rw [upm_ne (by omega), e]
      · rw [em, upm_ne (by omega), upm_eq]
    · omega
    · omega
  · rcases H with ⟨rfl, q', l', ey, e⟩ | ⟨rfl, q', e⟩ | ⟨rfl, q', l', e⟩
    · omega
    · subst e
      exact ⟨hc.ref (fun A i w => upm_ne (by unfold pRf at w; omega)), hr.th' (by omega), hb.one (by omega), upm_eq, fun z => by omega⟩
    · omega
  · rcases H with ⟨rfl, q', l', ey, e⟩ | ⟨rfl, q', e⟩ | ⟨rfl, q', l', e⟩
    · omega
    · omega
    · subst e
      exact ⟨hc.ref (fun A i w => upm_ne (by unfold pRf at w; omega)), hr.th' (by omega), hb.one (by omega), upm_eq, fun z => by omega⟩
def Hf6 (p0 p1 t y : Int) (m' : MM) : Prop := ClS m' ∧ RefOK m' ∧ ∃ m, RelB m ∧ ((t = 0 ∧ (0 ≤ p0 ∧ p0 < 3) ∧ (1 ≤ p1 ∧ p1 ≤ 3) ∧ y = m 8 p0.toNat ∧ m' = upm (upm m 8 p0.toNat p1) 0 11 1) ∨ (t = 1 ∧ ¬ (0 ≤ p0 ∧ p0 < 3) ∧ m' = m) ∨ (t = 2 ∧ (0 ≤ p0 ∧ p0 < 3) ∧ ¬ (1 ≤ p1 ∧ p1 ≤ 3) ∧ m' = m))
theorem cl6 {S : Nat × (Nat → Int32)} {n : Nat} {m : MM} {p0 p1 : Int} (hc : ClS m) (hr : RefOK m) (hb : RelB m) : CQI (Ex S (n + 3)) 62 [.inr 0, .inl p0, .inl p1] m (fun y m' => Hf6 p0 p1 0 y m') (fun e m' => (e = 2 ∧ Hf6 p0 p1 1 0 m') ∨ (e = 0 ∧ Hf6 p0 p1 2 0 m')) :=
  f_62x (n := n + 1) hc (fun q l r m' er hc' em => ⟨hc', hr.fr (fun A i a b => by rw [em]; repeat rw [upm_ne (by omega)]), m, hb, Or.inl ⟨rfl, q, l, er, em⟩⟩) (fun q => Or.inl ⟨rfl, hc, hr, m, hb, Or.inr (Or.inl ⟨rfl, q, rfl⟩)⟩) (fun q l => Or.inr ⟨rfl, hc, hr, m, hb, Or.inr (Or.inr ⟨rfl, q, l, rfl⟩)⟩)
theorem rf6 {S : Nat × (Nat → Int32)} {n : Nat} {m' : MM} {p0 p1 t y : Int} (H : Hf6 p0 p1 t y m') : CQI (Ex S (n + 4)) 237 [.inr 143, .inl p0, .inl p1] m' (fun r m2 => ClS m2 ∧ RefOK m2 ∧ RelB m2 ∧ m2 143 0 = t ∧ (t = 0 → r = y)) (fun _ _ => False) := by
  obtain ⟨hc, hr, m, hb, H⟩ := H
  have h8 : 0 ≤ m' 143 1 ∧ m' 143 1 ≤ 8 := hr.ops.1
  have hz := hb.1
  have e1 : m' 143 1 = m 143 1 := by
    rcases H with ⟨-, -, -, -, e⟩ | ⟨-, -, e⟩ | ⟨-, -, -, e⟩ <;> rw [e]
    repeat rw [upm_ne (by omega)]
  refine f_237x h8 (fun q l r m2 er em => ?_) (fun q => ?_) (fun q l => ?_)
  · rcases H with ⟨rfl, q', l', ey, e⟩ | ⟨rfl, q', e⟩ | ⟨rfl, q', l', e⟩
    · have er2 : m' 153 p0.toNat = m 153 p0.toNat := by
        rw [e]
        repeat rw [upm_ne (by omega)]
      have er3 : m 153 p0.toNat = m 8 p0.toNat := (hb.2.2.2 p0.toNat (by omega)).symm
      refine ⟨hc.ref (fun A i w => ?_), ?_, ?_, ?_, fun _ => by rw [er, ey, er2, er3]⟩
      · unfold pRf at w
        rw [em]
        repeat rw [upm_ne (by omega)]
      · rw [em]
        exact RefOK.up (hr.th' (by omega)) (by omega)
      · rw [em]
        refine RelB.row (A := 8) (B := 153) hb (by omega) (fun C j a b => ?_)
        rw [upm_ne (by omega), e, upm_ne (by omega)]
      · rw [em, upm_ne (by omega), upm_eq]
    · omega
    · omega
  · rcases H with ⟨rfl, q', l', ey, e⟩ | ⟨rfl, q', e⟩ | ⟨rfl, q', l', e⟩
    · omega
    · subst e
      exact ⟨hc.ref (fun A i w => upm_ne (by unfold pRf at w; omega)), hr.th' (by omega), hb.one (by omega), upm_eq, fun z => by omega⟩
    · omega
  · rcases H with ⟨rfl, q', l', ey, e⟩ | ⟨rfl, q', e⟩ | ⟨rfl, q', l', e⟩
    · omega
    · omega
    · subst e
      exact ⟨hc.ref (fun A i w => upm_ne (by unfold pRf at w; omega)), hr.th' (by omega), hb.one (by omega), upm_eq, fun z => by omega⟩
def Hf5 (p0 p1 p2 p3 t y : Int) (m' : MM) : Prop := ClS m' ∧ RefOK m' ∧ ∃ m, RelB m ∧ ((t = 0 ∧ (0 ≤ p0 ∧ p0 < 6) ∧ ((0 ≤ p1 ∧ p1 < 3) ∧ (1 ≤ p2 ∧ p2 ≤ 6) ∧ 1 ≤ p3 ∧ p3 ≤ 15) ∧ y = 0 ∧ m' = upm (upm (upm (upm m 5 p0.toNat p1) 6 p0.toNat p2) 7 p0.toNat p3) 0 11 1) ∨ (t = 1 ∧ ¬ (0 ≤ p0 ∧ p0 < 6) ∧ m' = m) ∨ (t = 2 ∧ (0 ≤ p0 ∧ p0 < 6) ∧ ¬ ((0 ≤ p1 ∧ p1 < 3) ∧ (1 ≤ p2 ∧ p2 ≤ 6) ∧ 1 ≤ p3 ∧ p3 ≤ 15) ∧ m' = m))
theorem cl5 {S : Nat × (Nat → Int32)} {n : Nat} {m : MM} {p0 p1 p2 p3 : Int} (hc : ClS m) (hr : RefOK m) (hb : RelB m) : CQV (Ex S (n + 3)) 59 [.inr 0, .inl p0, .inl p1, .inl p2, .inl p3] m (fun m' => Hf5 p0 p1 p2 p3 0 0 m') (fun e m' => (e = 2 ∧ Hf5 p0 p1 p2 p3 1 0 m') ∨ (e = 0 ∧ Hf5 p0 p1 p2 p3 2 0 m')) :=
  f_59x (n := n + 1) hc (fun q l m' hc' em => ⟨hc', hr.fr (fun A i a b => by rw [em]; repeat rw [upm_ne (by omega)]), m, hb, Or.inl ⟨rfl, q, l, rfl, em⟩⟩) (fun q => Or.inl ⟨rfl, hc, hr, m, hb, Or.inr (Or.inl ⟨rfl, q, rfl⟩)⟩) (fun q l => Or.inr ⟨rfl, hc, hr, m, hb, Or.inr (Or.inr ⟨rfl, q, l, rfl⟩)⟩)
theorem rf5 {S : Nat × (Nat → Int32)} {n : Nat} {m' : MM} {p0 p1 p2 p3 t y : Int} (H : Hf5 p0 p1 p2 p3 t y m') : CQI (Ex S (n + 4)) 236 [.inr 143, .inl p0, .inl p1, .inl p2, .inl p3] m' (fun r m2 => ClS m2 ∧ RefOK m2 ∧ RelB m2 ∧ m2 143 0 = t ∧ (t = 0 → r = y)) (fun _ _ => False) := by
  obtain ⟨hc, hr, m, hb, H⟩ := H
  have h8 : 0 ≤ m' 143 1 ∧ m' 143 1 ≤ 8 := hr.ops.1
  refine f_236x h8 (fun q l m2 em => ?_) (fun q => ?_) (fun q l => ?_)
  · rcases H with ⟨rfl, q', l', ey, e⟩ | ⟨rfl, q', e⟩ | ⟨rfl, q', l', e⟩
    · refine ⟨hc.ref (fun A i w => ?_), ?_, ?_, ?_, fun _ => ey.symm⟩
      · unfold pRf at w
        rw [em]
        repeat rw [upm_ne (by omega)]
      · rw [em]
        exact RefOK.up (RefOK.up (RefOK.up (hr.th' (by omega)) (by omega)) (by omega)) (by omega)
      · have b1 := RelB.row (A := 5) (B := 150) (i := p0.toNat) (x := p1) hb (by omega) (m2 := upm m 5 p0.toNat p1) (fun C j a b => rfl)
        have b2 := RelB.row (A := 6) (B := 151) (i := p0.toNat) (x := p2) b1 (by omega) (fun C j a b => rfl)
        have b3 := RelB.row (A := 7) (B := 152) (i := p0.toNat) (x := p3) b2 (by omega) (fun C j a b => rfl)
        refine b3.fr (fun A i w => ?_)
        rw [em, e]
        unfold upm
        repeat' split
        all_goals first | rfl | omega
      · rw [em]
        repeat rw [upm_ne (by omega)]
        exact upm_eq
    · omega
    · omega
  · rcases H with ⟨rfl, q', l', ey, e⟩ | ⟨rfl, q', e⟩ | ⟨rfl, q', l', e⟩
    · omega
    · subst e
      exact ⟨hc.ref (fun A i w => upm_ne (by unfold pRf at w; omega)), hr.th' (by omega), hb.one (by omega), upm_eq, fun z => by omega⟩
    · omega
  · rcases H with ⟨rfl, q', l', ey, e⟩ | ⟨rfl, q', e⟩ | ⟨rfl, q', l', e⟩
    · omega
    · omega
    · subst e
      exact ⟨hc.ref (fun A i w => upm_ne (by unfold pRf at w; omega)), hr.th' (by omega), hb.one (by omega), upm_eq, fun z => by omega⟩
end
section
/-! isSound and need on both sides -/
theorem RelB.ops {m : MM} (h : RelB m) {o : Nat} (ho : o < 8) : csN m o = srcN m o ∧ (∀ k : Nat, k < 2 → m 3 (4 * o + 2 * k) = srcA m o k ∧ m 3 (4 * o + 2 * k + 1) = srcB m o k) := by
  have q := h.2.1 o ho
  refine ⟨by unfold csN srcN; rw [q.1], fun k hk => ?_⟩
  have a : k = 0 ∨ k = 1 := by omega
  rcases a with rfl | rfl
  · exact ⟨q.2.1, q.2.2.1⟩
  · exact ⟨q.2.2.2.1, q.2.2.2.2.1⟩
theorem csN_rg (m : MM) (o : Nat) : 0 ≤ csN m o ∧ csN m o ≤ 2 := csN_le m o
theorem RelB.snd {m : MM} (h : RelB m) (hr : RefOK m) : SndX m ↔ SoundM m := by
  have h8 := hr.ops.1
  have hz := h.1
  constructor
  · intro hs o ho k hk hn
    have q := h.ops (o := o) (by omega)
    have w := csN_rg m o
    have s := hs o k.toNat (by omega) (by rw [q.1]; omega)
    have e := q.2 k.toNat (by rw [q.1] at w; omega)
    have ek : ((k.toNat : Nat) : Int) = k := by omega
    unfold SrcC at s
    rw [e.1, e.2, ek] at s
    unfold SrcS
    rcases s with s | ⟨s1, s2, s3⟩
    · exact Or.inl s
    · have kk : m 2 (srcA m o k).toNat = m 144 (srcA m o k).toNat := by
        have so := hr.ops.src (o := o) (by omega) hk hn
        unfold srcOK at so
        exact (h.2.1 _ (by omega)).1
      rw [kk] at s2
      exact Or.inr ⟨by omega, s2, by omega⟩
  · intro hs o k ho hn
    have q := h.ops (o := o) (by omega)
    have w := csN_rg m o
    have s := hs o (by omega) k (by omega) (by rw [← q.1]; exact hn)
    have e := q.2 k (by omega)
    unfold SrcC
    rw [e.1, e.2]
    have so := hr.ops.src (o := o) (by omega) (k := (k : Int)) (by omega) (by rw [← q.1]; exact hn)
    unfold SrcS at s
    unfold srcOK at so
    rcases s with s | ⟨s1, s2, s3⟩
    · exact Or.inl s
    · by_cases w2 : srcA m o k < 0
      · exact Or.inl w2
      · have kk : m 2 (srcA m o k).toNat = m 144 (srcA m o k).toNat := (h.2.1 _ (by omega)).1
        rw [kk]
        exact Or.inr ⟨by omega, s2, by omega⟩
theorem RelB.rpl {m : MM} (h : RelB m) (hB : BodyOK m) {o : Nat} (ho : o < 8) : m 2 o = m 144 o ∧ laB m (-1) o = latF m o ∧ (m 2 o = 4 ∨ m 2 o = 5 → rowB m o = rowF m o ∧ plcB m o = plcF m o) := by
  have q := h.2.1 o ho
  have kd := hB.kd ho
  have w := h.2.2.1 (m 2 o).toNat (by omega)
  refine ⟨q.1, ?_, fun k => ?_⟩
  · unfold laB cLa2 latF
    rw [if_neg (by omega), w.2.1, q.1]
  · unfold rowB rowF plcB plcF
    rw [← q.1]
    rcases k with k | k
    · rw [if_neg (by omega), if_pos k, if_neg (by omega), if_pos k]; exact ⟨q.2.1, q.2.2.1⟩
    · rw [if_pos k, if_neg (by omega), if_pos k, if_neg (by omega)]; exact ⟨q.2.2.2.1, q.2.2.2.2.1⟩
theorem NdR.cg {kd row pl la kd2 row2 pl2 la2 : Nat → Int} {s o : Nat} {x : Q4} (h : NdR kd row pl la s o x) (es : kd s = kd2 s ∧ la s = la2 s ∧ (kd s = 4 ∨ kd s = 5 → row s = row2 s ∧ pl s = pl2 s)) (eo : kd o = kd2 o ∧ la o = la2 o ∧ (kd o = 4 ∨ kd o = 5 → row o = row2 o ∧ pl o = pl2 o)) : NdR kd2 row2 pl2 la2 s o x := by
  obtain ⟨h1, h2, h3⟩ := h
  have e1 := es.2.2 (Or.inr h1)
  have e2 := eo.2.2 (by rcases h3 with h | h | h <;> omega)
  unfold NdR
  rw [← es.1, ← es.2.1, ← eo.1, ← e1.1, ← e1.2, ← e2.1, ← e2.2]
  exact ⟨h1, h2, h3⟩
theorem RelB.nd {m : MM} (h : RelB m) (hB : BodyOK m) (hr : RefOK m) (x : Q4) : NdC m (-1) x ↔ NdF m x := by
  have h8 := hr.ops.1
  have hz := h.1
  have la : ∀ a : Int, 0 ≤ a → a ≤ 7 → laB m (-1) a.toNat = latF m a.toNat := fun a b c => (h.rpl hB (o := a.toNat) (by omega)).2.1
  have sy : ∀ o : Nat, o < 8 → (m 2 o = m 144 o ∧ laB m (-1) o = latF m o ∧ (m 2 o = 4 ∨ m 2 o = 5 → rowB m o = rowF m o ∧ plcB m o = plcF m o)) := fun o ho => h.rpl hB ho
  have ys : ∀ o : Nat, o < 8 → (m 144 o = m 2 o ∧ latF m o = laB m (-1) o ∧ (m 144 o = 4 ∨ m 144 o = 5 → rowF m o = rowB m o ∧ plcF m o = plcB m o)) := fun o ho => by
    have q := sy o ho
    exact ⟨q.1.symm, q.2.1.symm, fun k => by
      have w := q.2.2 (by rw [q.1]; exact k)
      exact ⟨w.1.symm, w.2.symm⟩⟩
  constructor
  · rintro (⟨o, k, h1, h2, h3, h4⟩ | ⟨s, o, h1, h2, h3, h4⟩)
    · have q := h.ops (o := o) (by omega)
      have w := csN_rg m o
      have e := q.2 k (by omega)
      have so := hr.ops.src (o := o) (by omega) (k := (k : Int)) (by omega) (by rw [← q.1]; exact h2)
      rw [e.1] at h3 h4
      rw [e.2] at h4
      unfold srcOK at so
      rw [la _ h3 (by omega)] at h4
      exact Or.inl ⟨o, k, by omega, by rw [← q.1]; exact h2, h3, h4⟩
    · exact Or.inr ⟨s, o, by omega, by omega, h3, NdR.cg h4 (sy s (by omega)) (sy o (by omega))⟩
  · rintro (⟨o, k, h1, h2, h3, h4⟩ | ⟨s, o, h1, h2, h3, h4⟩)
    · have q := h.ops (o := o) (by omega)
      have w := csN_rg m o
      rw [q.1] at w
      have e := q.2 k (by omega)
      have so := hr.ops.src (o := o) (by omega) (k := (k : Int)) (by omega) h2
      unfold srcOK at so
      rw [← la _ h3 (by omega), ← e.1, ← e.2] at h4
      rw [← e.1] at h3
      exact Or.inl ⟨o, k, by omega, by rw [q.1]; exact h2, h3, h4⟩
    · exact Or.inr ⟨s, o, by omega, by omega, h3, NdR.cg h4 (ys s (by omega)) (ys o (by omega))⟩
theorem RelB.webs {m m' : MM} (h : RelB m) (hB : BodyOK m) (hr : RefOK m) (w0 : 0 ≤ m 9 0) (v0 : 0 ≤ m' 143 12) (h1 : Enum (cwq m 9) (m 9 0).toNat (NdC m (-1))) (h2 : Enum (rq m') (m' 143 12).toNat (NdF m)) : m 9 0 = m' 143 12 ∧ ∀ i : Nat, (i : Int) < m 9 0 → cwq m 9 i = rq m' i := by
  have u := h1.uniq h2 (h.nd hB hr)
  exact ⟨by omega, fun i hi => u.2 i (by omega)⟩
theorem krf {m m' : MM} (hr : RefOK m) (hF : Frm pNb m m') : RefOK m' := hr.fr (fun A i a b => hF A i (by unfold pNb; omega))
theorem krb {m m' : MM} (hb : RelB m) (hF : Frm pNb m m') : RelB m' := hb.fr (fun A i q => hF A i (by unfold pNb; omega))
theorem qQ {m m' : MM} (hc : ClS m) (hb : RelB m) (hF : FrQ m m') : ClS m' ∧ RelB m' := ⟨hc.ref (fun A i q => hF A i (by unfold pRf at q; omega)), hb.fr (fun A i q => hF A i (by omega))⟩
end
section
/-! rounds, bounds, counts on both sides -/
theorem NdRd.rnd {mc mr m' : MM} {W o : Nat} {r : Int} {P : Q4 → Prop} (ho : o ≤ 8) (w0 : 0 ≤ mc W 0) (hE : Enum (cwq mc W) (mc W 0).toNat P) (hT : WtOK mc W) (hL : RtL (ringsAll (cwq mc W) (mc W 0).toNat o) mc W) (eP : ∀ x, P x ↔ NdF mr x) (w : NdRd mr m' r) (h18 : m' 143 18 = -1) (e1 : m' 143 1 = (o : Int)) : r = upV (mc W 5) (mc W 6) ∧ mc W 0 = m' 143 12 := by
  obtain ⟨hN, hE2, r0, hR⟩ := w
  have u := hE.uniq hE2 eP
  have n0 := hN.2.1.1
  have hV := hN.v
  rw [show (m' 143 1).toNat = o by omega, ← u.1] at hV
  have hV2 : EdV (cwq mc W) (mc W 0).toNat o := fun j hj => by rw [u.2 j hj]; exact hV j hj
  obtain ⟨⟨t1, t2⟩, t3, t4⟩ := hT
  refine ⟨hR.eq r0 t1 (by omega) (fun d hd => ?_), by omega⟩
  rw [NdE.q h18 n0, ← u.1, ← EdQ_cg u.2]
  exact hL.noup ho hV2 hd
end
section
/-! far, height, bare on both sides -/
theorem RelB.rndw {m m' : MM} {r : Int} (h : RelB m) (hB : BodyOK m) (hr : RefOK m) (w0 : 0 ≤ m 9 0) (w : WbX m) (w1 : NdRd m m' r) (r1 : RefOK m') (e1 : m' 143 1 = m 1 0) : r = upV (m 9 5) (m 9 6) := by
  have h8 := hB.1
  exact (w1.rnd (mc := m) (W := 9) (o := (m 1 0).toNat) (by omega) w0 w.2.1 w.2.2.1 w.2.2.2 (h.nd hB hr) r1.lo (by omega)).1
end
section
/-! fits, least, time on both sides -/
section FT
variable {S : Nat × (Nat → Int32)} {n : Nat} {m m' : MM} {d r : Int} {s T : Nat → Int}
theorem RelB.prb (h : RelB m) (hB : BodyOK m) (hr : RefOK m) (w0 : 0 ≤ m 9 0) (w : WbX m) (w1 : NdRd m m' r) (hq : FrQ m m') : PrbE (CPb m d) (RPb m' d) := by
  have h8 := hB.1
  have n0 := w1.1.2.1.1
  have u := h.webs hB hr w0 n0 w.2.1 w1.2.1
  have e1 : m' 143 1 = m 1 0 := (hq 143 1 (by omega)).trans h.1.symm
  refine ⟨show (m 1 0).toNat = (m' 143 1).toNat by rw [e1], rfl, fun o ho => ?_, fun k hk => ?_, fun a b x => ?_⟩
  · have ho2 : o < (m 1 0).toNat := ho
    have g := h.un hB (o := o) (by omega)
    show cUn m o = rUn m' o ∧ cBu m o = rBu m' o
    rw [g.1, g.2.1]
    unfold rUn rBu
    rw [hq 144 o (by omega), hq 150 _ (by omega), hq 152 _ (by omega)]
    exact ⟨rfl, rfl⟩
  · show m 8 k = m' 153 k
    rw [hq 153 k (by omega)]
    exact h.2.2.2 k hk
  · show EdQ (cwq m 9) (m 9 0).toNat d a b x ↔ EdQ (rq m') (m' 143 12).toNat d a b x
    rw [EdQ_cg (c' := rq m') (fun i hi => u.2 i (by omega)), show (m 9 0).toNat = (m' 143 12).toNat by rw [u.1]]
theorem fit_y (h : RelB m) (hB : BodyOK m) (hr : RefOK m) (w0 : 0 ≤ m 9 0) (w : WbX m) (r1 : RefOK m') (hq : FrQ m m') (hF : FitR m m' d) (hN : NoD m d) : False := by
  obtain ⟨-, ⟨r, w1, hd⟩, -, hL, -, -⟩ := hF
  rcases hN with q | q
  · have er := h.rndw hB hr w0 w w1 r1 ((hq 143 1 (by omega)).trans h.1.symm)
    omega
  · exact q _ ((h.prb hB hr w0 w w1 hq).symm.fsb hL.1)
theorem fit_n (h : RelB m) (hB : BodyOK m) (hr : RefOK m) (w0 : 0 ≤ m 9 0) (hs : SoundM m) (w : WbX m) (r1 : RefOK m') (hq : FrQ m m') (hN : NoFR m m' d) (hY : YsC m d) : False := by
  obtain ⟨q1, v, q2⟩ := hY
  rcases hN with (q | ⟨-, r, w1, hd⟩) | ⟨-, ⟨r, w1, hd⟩, q⟩
  · exact q hs
  · have er := h.rndw hB hr w0 w w1 r1 ((hq 143 1 (by omega)).trans h.1.symm)
    omega
  · exact q v ((h.prb hB hr w0 w w1 hq).fsb q2)
theorem NoD.rf (h : NoD m d) (hF : Frm pRf m m') : NoD m' d := by
  unfold NoD
  rw [CPb.cg (fun A i q => hF A i (by unfold pRf; omega)), hF 9 5 (by unfold pRf; omega), hF 9 6 (by unfold pRf; omega)]
  exact h
theorem YsC.rf (h : YsC m d) (hF : Frm pRf m m') : YsC m' d := by
  unfold YsC
  rw [CPb.cg (fun A i q => hF A i (by unfold pRf; omega)), hF 9 5 (by unfold pRf; omega), hF 9 6 (by unfold pRf; omega)]
  exact h
theorem FiT.rf (h : FiT m d s T) (hF : Frm pRf m m') : FiT m' d s T := by
  obtain ⟨h1, h2, h3⟩ := h
  refine ⟨h1.fr (fun A i a b => hF A i (by unfold pRf; omega)), h2.fr (fun A i q => hF A i (by unfold pRf; omega)), ?_⟩
  rw [CPb.cg (fun A i q => hF A i (by unfold pRf; omega)), hF 9 5 (by unfold pRf; omega), hF 9 6 (by unfold pRf; omega)]
  exact h3
theorem upR {x : Int} : Frm pRf m (upm m 143 0 x) := fun A i q => upm_ne (by unfold pRf at q; omega)
def Hf13 (p0 t y : Int) (m : MM) : Prop := ClS m ∧ RefOK m ∧ RelB m ∧ ((t = 1 ∧ ¬ (1 ≤ p0 ∧ p0 ≤ 12)) ∨ (t = 2 ∧ (1 ≤ p0 ∧ p0 ≤ 12) ∧ ¬ SndX m) ∨ (t = 0 ∧ (1 ≤ p0 ∧ p0 ≤ 12) ∧ SndX m ∧ WbX m ∧ ((y = 1 ∧ YsC m p0) ∨ (y = 0 ∧ NoD m p0))))
theorem cl13 {p0 : Int} (hc : ClS m) (hr : RefOK m) (hb : RelB m) : CQI (Ex S (n + 17)) 84 [.inr 0, .inl p0] m (fun y m' => Hf13 p0 0 y m') (fun e m' => (e = 0 ∧ Hf13 p0 1 0 m') ∨ (e = 1 ∧ Hf13 p0 2 0 m')) :=
  f_84x hc (fun a m' c f s w r q => ⟨c, krf hr f, krb hb f, Or.inr (Or.inr ⟨rfl, a, s, w, q⟩)⟩) (fun a => Or.inl ⟨rfl, hc, hr, hb, Or.inl ⟨rfl, a⟩⟩) (fun a m' c f s => Or.inr ⟨rfl, c, krf hr f, krb hb f, Or.inr (Or.inl ⟨rfl, a, s⟩)⟩)
theorem rf13 {p0 t y : Int} (H : Hf13 p0 t y m) : CQI (Ex S (n + 6)) 267 [.inr 143, .inl p0] m (fun r m2 => ClS m2 ∧ RefOK m2 ∧ RelB m2 ∧ m2 143 0 = t ∧ (t = 0 → r = y)) (fun _ _ => False) := by
  obtain ⟨hc, hr, hb, H⟩ := H
  have hs := hb.snd hr
  have h' := hr.th' (z := 0) (by omega)
  have hc' : ClS (upm m 143 0 0) := hc.ref upR
  have hb' : RelB (upm m 143 0 0) := hb.one (by omega)
  have t' : upm m 143 0 0 143 0 = 0 := upm_eq
  have w0 := hc'.1.w.2.1
  have hB := hc'.1.b
  have fin : ∀ z : Int, 0 ≤ z ∧ z ≤ 4 → ClS (upm m 143 0 z) ∧ RefOK (upm m 143 0 z) ∧ RelB (upm m 143 0 z) ∧ upm m 143 0 z 143 0 = z := fun z hz => ⟨hc.ref upR, hr.th' hz, hb.one (by omega), upm_eq⟩
  refine CWI.q (Ex.mono S (n + 6)) (CW.of (k := 0) mt_267 rfl rfl (w_267_0 (Ex.mono S (n + 5)) (f_253e (fun d1 d2 _ => ⟨fun _ => f_240 hr.ops (fun hS _ => ⟨fun _ => f_268q h' ⟨d1, d2⟩ (fun m' h1 h2 h3 hF _ => ⟨fun z => absurd z (by decide), fun _ => ⟨_, rfl, ?_⟩⟩) (fun m' h1 h2 h3 hN _ => ⟨fun _ => ⟨_, rfl, ?_⟩, fun z => absurd rfl z⟩), fun z => absurd (by decide) z⟩) (fun hS _ => ⟨fun z => absurd rfl z, fun _ => ⟨_, rfl, ?_⟩⟩), fun z => absurd (by decide) z⟩) (fun nd _ => ⟨fun z => absurd rfl z, fun _ => ⟨_, rfl, ?_⟩⟩))))
  · rcases H with ⟨-, a⟩ | ⟨-, -, a⟩ | ⟨rfl, -, a, w, q⟩
    · exact absurd ⟨d1, d2⟩ a
    · exact absurd (hs.mpr hS) a
    · refine ⟨(qQ hc' hb' h2).1, h1, (qQ hc' hb' h2).2, h3.trans t', fun _ => ?_⟩
      rcases q with q | q
      · exact q.1.symm
      · exact (fit_y hb' hB h' w0 (w.fr (fun A i q => upm_ne (by omega))) h1 h2 hF (q.2.rf upR)).elim
  · rcases H with ⟨-, a⟩ | ⟨-, -, a⟩ | ⟨rfl, -, a, w, q⟩
    · exact absurd ⟨d1, d2⟩ a
    · exact absurd (hs.mpr hS) a
    · refine ⟨(qQ hc' hb' h2).1, h1, (qQ hc' hb' h2).2, h3.trans t', fun _ => ?_⟩
      rcases q with q | q
      · exact (fit_n hb' hB h' w0 hS.th (w.fr (fun A i q => upm_ne (by omega))) h1 h2 hN (q.2.rf upR)).elim
      · exact q.1.symm
  · rcases H with ⟨-, a⟩ | ⟨rfl, -, a⟩ | ⟨-, -, a, -⟩
    · exact absurd ⟨d1, d2⟩ a
    · obtain ⟨f1, f2, f3, f4⟩ := fin 2 (by omega)
      exact ⟨f1, f2, f3, f4, fun z => by omega⟩
    · exact absurd (hs.mp a) hS
  · rcases H with ⟨rfl, -⟩ | ⟨-, a, -⟩ | ⟨-, a, -⟩
    · obtain ⟨f1, f2, f3, f4⟩ := fin 1 (by omega)
      exact ⟨f1, f2, f3, f4, fun z => by omega⟩
    · exact absurd a nd
    · exact absurd a nd
def LeC (m : MM) (y : Int) : Prop := (1 ≤ y ∧ y ≤ 12 ∧ YsC m y ∧ ∀ k : Int, 1 ≤ k → k < y → NoD m k) ∨ (y = -1 ∧ ∀ k : Int, 1 ≤ k → k ≤ 12 → NoD m k)
theorem LeC.rf {y : Int} (h : LeC m y) (hF : Frm pRf m m') : LeC m' y := h.imp (fun w => ⟨w.1, w.2.1, w.2.2.1.rf hF, fun k a b => (w.2.2.2 k a b).rf hF⟩) (fun w => ⟨w.1, fun k a b => (w.2 k a b).rf hF⟩)
end FT
end
