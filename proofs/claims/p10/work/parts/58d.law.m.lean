section
/-! laid by wip/hand/lw.py: cases of the law -/
theorem te_368_1783 : (pT M_368).find? (fun e => e.1 == 1783) = some (1783, .aload_n 1, 0, 0) := (sk_92 1783 rfl).trans rfl
theorem te_368_1784 : (pT M_368).find? (fun e => e.1 == 1784) = some (1784, .aload_n 0, 0, 0) := (sk_92 1784 rfl).trans rfl
theorem te_368_1785 : (pT M_368).find? (fun e => e.1 == 1785) = some (1785, .iload 4, 0, 0) := (sk_92 1785 rfl).trans rfl
theorem te_368_1787 : (pT M_368).find? (fun e => e.1 == 1787) = some (1787, .iconst 1, 0, 0) := (sk_92 1787 rfl).trans rfl
theorem te_368_1788 : (pT M_368).find? (fun e => e.1 == 1788) = some (1788, .iadd, 0, 0) := (sk_92 1788 rfl).trans rfl
theorem te_368_1789 : (pT M_368).find? (fun e => e.1 == 1789) = some (1789, .iaload, 0, 0) := (sk_93 1789 rfl).trans rfl
theorem te_368_1790 : (pT M_368).find? (fun e => e.1 == 1790) = some (1790, .ifCond .eq 7, 0, 0) := (sk_93 1790 rfl).trans rfl
theorem te_368_1793 : (pT M_368).find? (fun e => e.1 == 1793) = some (1793, .iconst 1, 0, 0) := (sk_93 1793 rfl).trans rfl
theorem te_368_1794 : (pT M_368).find? (fun e => e.1 == 1794) = some (1794, .goto 4, 0, 0) := (sk_93 1794 rfl).trans rfl
theorem te_368_1797 : (pT M_368).find? (fun e => e.1 == 1797) = some (1797, .iconst 0, 0, 0) := (sk_93 1797 rfl).trans rfl
theorem te_368_1798 : (pT M_368).find? (fun e => e.1 == 1798) = some (1798, .aload_n 3, 0, 0) := (sk_93 1798 rfl).trans rfl
theorem te_368_1799 : (pT M_368).find? (fun e => e.1 == 1799) = some (1799, .invokestatic 290, 187, 8) := (sk_93 1799 rfl).trans rfl
theorem te_368_1802 : (pT M_368).find? (fun e => e.1 == 1802) = some (1802, .istore 5, 0, 0) := (sk_93 1802 rfl).trans rfl
theorem te_368_1804 : (pT M_368).find? (fun e => e.1 == 1804) = some (1804, .aload_n 2, 0, 0) := (sk_93 1804 rfl).trans rfl
theorem te_368_1805 : (pT M_368).find? (fun e => e.1 == 1805) = some (1805, .aload_n 0, 0, 0) := (sk_93 1805 rfl).trans rfl
theorem te_368_1806 : (pT M_368).find? (fun e => e.1 == 1806) = some (1806, .iload 4, 0, 0) := (sk_93 1806 rfl).trans rfl
theorem te_368_1808 : (pT M_368).find? (fun e => e.1 == 1808) = some (1808, .iconst 1, 0, 0) := (sk_93 1808 rfl).trans rfl
theorem te_368_1809 : (pT M_368).find? (fun e => e.1 == 1809) = some (1809, .iadd, 0, 0) := (sk_94 1809 rfl).trans rfl
theorem te_368_1810 : (pT M_368).find? (fun e => e.1 == 1810) = some (1810, .iaload, 0, 0) := (sk_94 1810 rfl).trans rfl
theorem te_368_1811 : (pT M_368).find? (fun e => e.1 == 1811) = some (1811, .ifCond .eq 7, 0, 0) := (sk_94 1811 rfl).trans rfl
theorem te_368_1814 : (pT M_368).find? (fun e => e.1 == 1814) = some (1814, .iconst 1, 0, 0) := (sk_94 1814 rfl).trans rfl
theorem te_368_1815 : (pT M_368).find? (fun e => e.1 == 1815) = some (1815, .goto 4, 0, 0) := (sk_94 1815 rfl).trans rfl
theorem te_368_1818 : (pT M_368).find? (fun e => e.1 == 1818) = some (1818, .iconst 0, 0, 0) := (sk_94 1818 rfl).trans rfl
theorem te_368_1819 : (pT M_368).find? (fun e => e.1 == 1819) = some (1819, .invokevirtual 293, 343, 0) := (sk_94 1819 rfl).trans rfl
theorem te_368_1822 : (pT M_368).find? (fun e => e.1 == 1822) = some (1822, .istore 6, 0, 0) := (sk_94 1822 rfl).trans rfl
theorem te_368_1824 : (pT M_368).find? (fun e => e.1 == 1824) = some (1824, .goto 492, 0, 0) := (sk_94 1824 rfl).trans rfl
theorem te_368_1827 : (pT M_368).find? (fun e => e.1 == 1827) = some (1827, .aload_n 1, 0, 0) := (sk_94 1827 rfl).trans rfl
theorem te_368_1828 : (pT M_368).find? (fun e => e.1 == 1828) = some (1828, .aload_n 3, 0, 0) := (sk_94 1828 rfl).trans rfl
theorem te_368_1829 : (pT M_368).find? (fun e => e.1 == 1829) = some (1829, .invokestatic 294, 189, 8) := (sk_94 1829 rfl).trans rfl
theorem te_368_1832 : (pT M_368).find? (fun e => e.1 == 1832) = some (1832, .istore 5, 0, 0) := (sk_95 1832 rfl).trans rfl
theorem te_368_1834 : (pT M_368).find? (fun e => e.1 == 1834) = some (1834, .aload_n 2, 0, 0) := (sk_95 1834 rfl).trans rfl
theorem te_368_1835 : (pT M_368).find? (fun e => e.1 == 1835) = some (1835, .invokevirtual 296, 348, 0) := (sk_95 1835 rfl).trans rfl
theorem te_368_1838 : (pT M_368).find? (fun e => e.1 == 1838) = some (1838, .istore 6, 0, 0) := (sk_95 1838 rfl).trans rfl
theorem te_368_1840 : (pT M_368).find? (fun e => e.1 == 1840) = some (1840, .goto 476, 0, 0) := (sk_95 1840 rfl).trans rfl
theorem te_368_1843 : (pT M_368).find? (fun e => e.1 == 1843) = some (1843, .aload_n 1, 0, 0) := (sk_95 1843 rfl).trans rfl
theorem te_368_1844 : (pT M_368).find? (fun e => e.1 == 1844) = some (1844, .aload_n 0, 0, 0) := (sk_95 1844 rfl).trans rfl
theorem te_368_1845 : (pT M_368).find? (fun e => e.1 == 1845) = some (1845, .iload 4, 0, 0) := (sk_95 1845 rfl).trans rfl
theorem te_368_1847 : (pT M_368).find? (fun e => e.1 == 1847) = some (1847, .iconst 1, 0, 0) := (sk_95 1847 rfl).trans rfl
theorem te_368_1848 : (pT M_368).find? (fun e => e.1 == 1848) = some (1848, .iadd, 0, 0) := (sk_95 1848 rfl).trans rfl
theorem te_368_1849 : (pT M_368).find? (fun e => e.1 == 1849) = some (1849, .iaload, 0, 0) := (sk_95 1849 rfl).trans rfl
theorem te_368_1850 : (pT M_368).find? (fun e => e.1 == 1850) = some (1850, .aload_n 3, 0, 0) := (sk_95 1850 rfl).trans rfl
theorem te_368_1851 : (pT M_368).find? (fun e => e.1 == 1851) = some (1851, .invokestatic 297, 191, 8) := (sk_96 1851 rfl).trans rfl
theorem te_368_1854 : (pT M_368).find? (fun e => e.1 == 1854) = some (1854, .istore 5, 0, 0) := (sk_96 1854 rfl).trans rfl
theorem te_368_1856 : (pT M_368).find? (fun e => e.1 == 1856) = some (1856, .aload_n 2, 0, 0) := (sk_96 1856 rfl).trans rfl
theorem te_368_1857 : (pT M_368).find? (fun e => e.1 == 1857) = some (1857, .aload_n 0, 0, 0) := (sk_96 1857 rfl).trans rfl
theorem te_368_1858 : (pT M_368).find? (fun e => e.1 == 1858) = some (1858, .iload 4, 0, 0) := (sk_96 1858 rfl).trans rfl
theorem te_368_1860 : (pT M_368).find? (fun e => e.1 == 1860) = some (1860, .iconst 1, 0, 0) := (sk_96 1860 rfl).trans rfl
theorem te_368_1861 : (pT M_368).find? (fun e => e.1 == 1861) = some (1861, .iadd, 0, 0) := (sk_96 1861 rfl).trans rfl
theorem te_368_1862 : (pT M_368).find? (fun e => e.1 == 1862) = some (1862, .iaload, 0, 0) := (sk_96 1862 rfl).trans rfl
theorem te_368_1863 : (pT M_368).find? (fun e => e.1 == 1863) = some (1863, .invokevirtual 299, 349, 0) := (sk_96 1863 rfl).trans rfl
theorem te_368_1866 : (pT M_368).find? (fun e => e.1 == 1866) = some (1866, .istore 6, 0, 0) := (sk_96 1866 rfl).trans rfl
theorem te_368_1868 : (pT M_368).find? (fun e => e.1 == 1868) = some (1868, .goto 448, 0, 0) := (sk_96 1868 rfl).trans rfl
theorem te_368_1871 : (pT M_368).find? (fun e => e.1 == 1871) = some (1871, .aload_n 1, 0, 0) := (sk_96 1871 rfl).trans rfl
theorem te_368_1872 : (pT M_368).find? (fun e => e.1 == 1872) = some (1872, .aload_n 3, 0, 0) := (sk_97 1872 rfl).trans rfl
theorem te_368_1873 : (pT M_368).find? (fun e => e.1 == 1873) = some (1873, .invokestatic 300, 193, 8) := (sk_97 1873 rfl).trans rfl
theorem te_368_1876 : (pT M_368).find? (fun e => e.1 == 1876) = some (1876, .istore 5, 0, 0) := (sk_97 1876 rfl).trans rfl
theorem te_368_1878 : (pT M_368).find? (fun e => e.1 == 1878) = some (1878, .aload_n 2, 0, 0) := (sk_97 1878 rfl).trans rfl
theorem te_368_1879 : (pT M_368).find? (fun e => e.1 == 1879) = some (1879, .invokevirtual 302, 351, 0) := (sk_97 1879 rfl).trans rfl
theorem te_368_1882 : (pT M_368).find? (fun e => e.1 == 1882) = some (1882, .istore 6, 0, 0) := (sk_97 1882 rfl).trans rfl
theorem te_368_1884 : (pT M_368).find? (fun e => e.1 == 1884) = some (1884, .goto 432, 0, 0) := (sk_97 1884 rfl).trans rfl
theorem te_368_1887 : (pT M_368).find? (fun e => e.1 == 1887) = some (1887, .aload_n 1, 0, 0) := (sk_97 1887 rfl).trans rfl
theorem te_368_1888 : (pT M_368).find? (fun e => e.1 == 1888) = some (1888, .aload_n 0, 0, 0) := (sk_97 1888 rfl).trans rfl
theorem te_368_1889 : (pT M_368).find? (fun e => e.1 == 1889) = some (1889, .iload 4, 0, 0) := (sk_97 1889 rfl).trans rfl
theorem te_368_1891 : (pT M_368).find? (fun e => e.1 == 1891) = some (1891, .iconst 1, 0, 0) := (sk_97 1891 rfl).trans rfl
theorem te_368_1892 : (pT M_368).find? (fun e => e.1 == 1892) = some (1892, .iadd, 0, 0) := (sk_97 1892 rfl).trans rfl
theorem te_368_1893 : (pT M_368).find? (fun e => e.1 == 1893) = some (1893, .iaload, 0, 0) := (sk_98 1893 rfl).trans rfl
theorem te_368_1894 : (pT M_368).find? (fun e => e.1 == 1894) = some (1894, .aload_n 3, 0, 0) := (sk_98 1894 rfl).trans rfl
theorem te_368_1895 : (pT M_368).find? (fun e => e.1 == 1895) = some (1895, .invokestatic 303, 195, 8) := (sk_98 1895 rfl).trans rfl
theorem te_368_1898 : (pT M_368).find? (fun e => e.1 == 1898) = some (1898, .istore 5, 0, 0) := (sk_98 1898 rfl).trans rfl
theorem te_368_1900 : (pT M_368).find? (fun e => e.1 == 1900) = some (1900, .aload_n 2, 0, 0) := (sk_98 1900 rfl).trans rfl
theorem te_368_1901 : (pT M_368).find? (fun e => e.1 == 1901) = some (1901, .aload_n 0, 0, 0) := (sk_98 1901 rfl).trans rfl
theorem te_368_1902 : (pT M_368).find? (fun e => e.1 == 1902) = some (1902, .iload 4, 0, 0) := (sk_98 1902 rfl).trans rfl
theorem te_368_1904 : (pT M_368).find? (fun e => e.1 == 1904) = some (1904, .iconst 1, 0, 0) := (sk_98 1904 rfl).trans rfl
theorem te_368_1905 : (pT M_368).find? (fun e => e.1 == 1905) = some (1905, .iadd, 0, 0) := (sk_98 1905 rfl).trans rfl
theorem te_368_1906 : (pT M_368).find? (fun e => e.1 == 1906) = some (1906, .iaload, 0, 0) := (sk_98 1906 rfl).trans rfl
theorem te_368_1907 : (pT M_368).find? (fun e => e.1 == 1907) = some (1907, .invokevirtual 305, 352, 0) := (sk_98 1907 rfl).trans rfl
theorem te_368_1910 : (pT M_368).find? (fun e => e.1 == 1910) = some (1910, .istore 6, 0, 0) := (sk_98 1910 rfl).trans rfl
theorem te_368_1912 : (pT M_368).find? (fun e => e.1 == 1912) = some (1912, .goto 404, 0, 0) := (sk_99 1912 rfl).trans rfl
theorem te_368_1915 : (pT M_368).find? (fun e => e.1 == 1915) = some (1915, .aload_n 1, 0, 0) := (sk_99 1915 rfl).trans rfl
theorem te_368_1916 : (pT M_368).find? (fun e => e.1 == 1916) = some (1916, .aload_n 0, 0, 0) := (sk_99 1916 rfl).trans rfl
theorem te_368_1917 : (pT M_368).find? (fun e => e.1 == 1917) = some (1917, .iload 4, 0, 0) := (sk_99 1917 rfl).trans rfl
theorem te_368_1919 : (pT M_368).find? (fun e => e.1 == 1919) = some (1919, .iconst 1, 0, 0) := (sk_99 1919 rfl).trans rfl
theorem te_368_1920 : (pT M_368).find? (fun e => e.1 == 1920) = some (1920, .iadd, 0, 0) := (sk_99 1920 rfl).trans rfl
theorem te_368_1921 : (pT M_368).find? (fun e => e.1 == 1921) = some (1921, .iaload, 0, 0) := (sk_99 1921 rfl).trans rfl
theorem te_368_1922 : (pT M_368).find? (fun e => e.1 == 1922) = some (1922, .aload_n 3, 0, 0) := (sk_99 1922 rfl).trans rfl
theorem te_368_1923 : (pT M_368).find? (fun e => e.1 == 1923) = some (1923, .invokestatic 306, 197, 8) := (sk_99 1923 rfl).trans rfl
theorem te_368_1926 : (pT M_368).find? (fun e => e.1 == 1926) = some (1926, .istore 5, 0, 0) := (sk_99 1926 rfl).trans rfl
theorem te_368_1928 : (pT M_368).find? (fun e => e.1 == 1928) = some (1928, .aload_n 2, 0, 0) := (sk_99 1928 rfl).trans rfl
theorem te_368_1929 : (pT M_368).find? (fun e => e.1 == 1929) = some (1929, .aload_n 0, 0, 0) := (sk_99 1929 rfl).trans rfl
theorem te_368_1930 : (pT M_368).find? (fun e => e.1 == 1930) = some (1930, .iload 4, 0, 0) := (sk_100 1930 rfl).trans rfl
theorem te_368_1932 : (pT M_368).find? (fun e => e.1 == 1932) = some (1932, .iconst 1, 0, 0) := (sk_100 1932 rfl).trans rfl
theorem te_368_1933 : (pT M_368).find? (fun e => e.1 == 1933) = some (1933, .iadd, 0, 0) := (sk_100 1933 rfl).trans rfl
theorem te_368_1934 : (pT M_368).find? (fun e => e.1 == 1934) = some (1934, .iaload, 0, 0) := (sk_100 1934 rfl).trans rfl
theorem te_368_1935 : (pT M_368).find? (fun e => e.1 == 1935) = some (1935, .invokevirtual 308, 355, 0) := (sk_100 1935 rfl).trans rfl
theorem te_368_1938 : (pT M_368).find? (fun e => e.1 == 1938) = some (1938, .istore 6, 0, 0) := (sk_100 1938 rfl).trans rfl
theorem te_368_1940 : (pT M_368).find? (fun e => e.1 == 1940) = some (1940, .goto 376, 0, 0) := (sk_100 1940 rfl).trans rfl
theorem te_368_1943 : (pT M_368).find? (fun e => e.1 == 1943) = some (1943, .aload_n 1, 0, 0) := (sk_100 1943 rfl).trans rfl
theorem te_368_1944 : (pT M_368).find? (fun e => e.1 == 1944) = some (1944, .aload_n 0, 0, 0) := (sk_100 1944 rfl).trans rfl
theorem te_368_1945 : (pT M_368).find? (fun e => e.1 == 1945) = some (1945, .iload 4, 0, 0) := (sk_100 1945 rfl).trans rfl
theorem te_368_1947 : (pT M_368).find? (fun e => e.1 == 1947) = some (1947, .iconst 1, 0, 0) := (sk_100 1947 rfl).trans rfl
theorem te_368_1948 : (pT M_368).find? (fun e => e.1 == 1948) = some (1948, .iadd, 0, 0) := (sk_100 1948 rfl).trans rfl
theorem te_368_1949 : (pT M_368).find? (fun e => e.1 == 1949) = some (1949, .iaload, 0, 0) := (sk_101 1949 rfl).trans rfl
theorem te_368_1950 : (pT M_368).find? (fun e => e.1 == 1950) = some (1950, .aload_n 0, 0, 0) := (sk_101 1950 rfl).trans rfl
theorem te_368_1951 : (pT M_368).find? (fun e => e.1 == 1951) = some (1951, .iload 4, 0, 0) := (sk_101 1951 rfl).trans rfl
theorem te_368_1953 : (pT M_368).find? (fun e => e.1 == 1953) = some (1953, .iconst 2, 0, 0) := (sk_101 1953 rfl).trans rfl
theorem te_368_1954 : (pT M_368).find? (fun e => e.1 == 1954) = some (1954, .iadd, 0, 0) := (sk_101 1954 rfl).trans rfl
theorem te_368_1955 : (pT M_368).find? (fun e => e.1 == 1955) = some (1955, .iaload, 0, 0) := (sk_101 1955 rfl).trans rfl
theorem te_368_1956 : (pT M_368).find? (fun e => e.1 == 1956) = some (1956, .aload_n 3, 0, 0) := (sk_101 1956 rfl).trans rfl
theorem te_368_1957 : (pT M_368).find? (fun e => e.1 == 1957) = some (1957, .invokestatic 309, 200, 8) := (sk_101 1957 rfl).trans rfl
theorem te_368_1960 : (pT M_368).find? (fun e => e.1 == 1960) = some (1960, .istore 5, 0, 0) := (sk_101 1960 rfl).trans rfl
theorem te_368_1962 : (pT M_368).find? (fun e => e.1 == 1962) = some (1962, .aload_n 2, 0, 0) := (sk_101 1962 rfl).trans rfl
theorem te_368_1963 : (pT M_368).find? (fun e => e.1 == 1963) = some (1963, .aload_n 0, 0, 0) := (sk_101 1963 rfl).trans rfl
theorem te_368_1964 : (pT M_368).find? (fun e => e.1 == 1964) = some (1964, .iload 4, 0, 0) := (sk_101 1964 rfl).trans rfl
theorem te_368_1966 : (pT M_368).find? (fun e => e.1 == 1966) = some (1966, .iconst 1, 0, 0) := (sk_102 1966 rfl).trans rfl
theorem te_368_1967 : (pT M_368).find? (fun e => e.1 == 1967) = some (1967, .iadd, 0, 0) := (sk_102 1967 rfl).trans rfl
theorem te_368_1968 : (pT M_368).find? (fun e => e.1 == 1968) = some (1968, .iaload, 0, 0) := (sk_102 1968 rfl).trans rfl
theorem te_368_1969 : (pT M_368).find? (fun e => e.1 == 1969) = some (1969, .aload_n 0, 0, 0) := (sk_102 1969 rfl).trans rfl
theorem te_368_1970 : (pT M_368).find? (fun e => e.1 == 1970) = some (1970, .iload 4, 0, 0) := (sk_102 1970 rfl).trans rfl
theorem te_368_1972 : (pT M_368).find? (fun e => e.1 == 1972) = some (1972, .iconst 2, 0, 0) := (sk_102 1972 rfl).trans rfl
theorem te_368_1973 : (pT M_368).find? (fun e => e.1 == 1973) = some (1973, .iadd, 0, 0) := (sk_102 1973 rfl).trans rfl
theorem te_368_1974 : (pT M_368).find? (fun e => e.1 == 1974) = some (1974, .iaload, 0, 0) := (sk_102 1974 rfl).trans rfl
theorem te_368_1975 : (pT M_368).find? (fun e => e.1 == 1975) = some (1975, .invokevirtual 311, 356, 0) := (sk_102 1975 rfl).trans rfl
theorem te_368_1978 : (pT M_368).find? (fun e => e.1 == 1978) = some (1978, .istore 6, 0, 0) := (sk_102 1978 rfl).trans rfl
theorem te_368_1980 : (pT M_368).find? (fun e => e.1 == 1980) = some (1980, .goto 336, 0, 0) := (sk_102 1980 rfl).trans rfl
theorem te_368_1983 : (pT M_368).find? (fun e => e.1 == 1983) = some (1983, .aload_n 1, 0, 0) := (sk_102 1983 rfl).trans rfl
theorem te_368_1984 : (pT M_368).find? (fun e => e.1 == 1984) = some (1984, .aload_n 0, 0, 0) := (sk_103 1984 rfl).trans rfl
theorem te_368_1985 : (pT M_368).find? (fun e => e.1 == 1985) = some (1985, .iload 4, 0, 0) := (sk_103 1985 rfl).trans rfl
theorem te_368_1987 : (pT M_368).find? (fun e => e.1 == 1987) = some (1987, .iconst 1, 0, 0) := (sk_103 1987 rfl).trans rfl
theorem te_368_1988 : (pT M_368).find? (fun e => e.1 == 1988) = some (1988, .iadd, 0, 0) := (sk_103 1988 rfl).trans rfl
theorem te_368_1989 : (pT M_368).find? (fun e => e.1 == 1989) = some (1989, .iaload, 0, 0) := (sk_103 1989 rfl).trans rfl
theorem te_368_1990 : (pT M_368).find? (fun e => e.1 == 1990) = some (1990, .aload_n 0, 0, 0) := (sk_103 1990 rfl).trans rfl
theorem te_368_1991 : (pT M_368).find? (fun e => e.1 == 1991) = some (1991, .iload 4, 0, 0) := (sk_103 1991 rfl).trans rfl
theorem te_368_1993 : (pT M_368).find? (fun e => e.1 == 1993) = some (1993, .iconst 2, 0, 0) := (sk_103 1993 rfl).trans rfl
theorem te_368_1994 : (pT M_368).find? (fun e => e.1 == 1994) = some (1994, .iadd, 0, 0) := (sk_103 1994 rfl).trans rfl
theorem te_368_1995 : (pT M_368).find? (fun e => e.1 == 1995) = some (1995, .iaload, 0, 0) := (sk_103 1995 rfl).trans rfl
theorem te_368_1996 : (pT M_368).find? (fun e => e.1 == 1996) = some (1996, .aload_n 0, 0, 0) := (sk_103 1996 rfl).trans rfl
theorem te_368_1997 : (pT M_368).find? (fun e => e.1 == 1997) = some (1997, .iload 4, 0, 0) := (sk_103 1997 rfl).trans rfl
theorem te_368_1999 : (pT M_368).find? (fun e => e.1 == 1999) = some (1999, .iconst 3, 0, 0) := (sk_104 1999 rfl).trans rfl
theorem te_368_2000 : (pT M_368).find? (fun e => e.1 == 2000) = some (2000, .iadd, 0, 0) := (sk_104 2000 rfl).trans rfl
theorem te_368_2001 : (pT M_368).find? (fun e => e.1 == 2001) = some (2001, .iaload, 0, 0) := (sk_104 2001 rfl).trans rfl
theorem te_368_2002 : (pT M_368).find? (fun e => e.1 == 2002) = some (2002, .ifCond .eq 7, 0, 0) := (sk_104 2002 rfl).trans rfl
theorem te_368_2005 : (pT M_368).find? (fun e => e.1 == 2005) = some (2005, .iconst 1, 0, 0) := (sk_104 2005 rfl).trans rfl
theorem te_368_2006 : (pT M_368).find? (fun e => e.1 == 2006) = some (2006, .goto 4, 0, 0) := (sk_104 2006 rfl).trans rfl
theorem te_368_2009 : (pT M_368).find? (fun e => e.1 == 2009) = some (2009, .iconst 0, 0, 0) := (sk_104 2009 rfl).trans rfl
theorem te_368_2010 : (pT M_368).find? (fun e => e.1 == 2010) = some (2010, .aload_n 3, 0, 0) := (sk_104 2010 rfl).trans rfl
theorem te_368_2011 : (pT M_368).find? (fun e => e.1 == 2011) = some (2011, .invokestatic 312, 202, 8) := (sk_104 2011 rfl).trans rfl
theorem te_368_2014 : (pT M_368).find? (fun e => e.1 == 2014) = some (2014, .istore 5, 0, 0) := (sk_104 2014 rfl).trans rfl
theorem te_368_2016 : (pT M_368).find? (fun e => e.1 == 2016) = some (2016, .aload_n 2, 0, 0) := (sk_104 2016 rfl).trans rfl
theorem te_368_2017 : (pT M_368).find? (fun e => e.1 == 2017) = some (2017, .aload_n 0, 0, 0) := (sk_104 2017 rfl).trans rfl
theorem te_368_2018 : (pT M_368).find? (fun e => e.1 == 2018) = some (2018, .iload 4, 0, 0) := (sk_105 2018 rfl).trans rfl
theorem te_368_2020 : (pT M_368).find? (fun e => e.1 == 2020) = some (2020, .iconst 1, 0, 0) := (sk_105 2020 rfl).trans rfl
theorem te_368_2021 : (pT M_368).find? (fun e => e.1 == 2021) = some (2021, .iadd, 0, 0) := (sk_105 2021 rfl).trans rfl
theorem te_368_2022 : (pT M_368).find? (fun e => e.1 == 2022) = some (2022, .iaload, 0, 0) := (sk_105 2022 rfl).trans rfl
theorem te_368_2023 : (pT M_368).find? (fun e => e.1 == 2023) = some (2023, .aload_n 0, 0, 0) := (sk_105 2023 rfl).trans rfl
theorem te_368_2024 : (pT M_368).find? (fun e => e.1 == 2024) = some (2024, .iload 4, 0, 0) := (sk_105 2024 rfl).trans rfl
theorem te_368_2026 : (pT M_368).find? (fun e => e.1 == 2026) = some (2026, .iconst 2, 0, 0) := (sk_105 2026 rfl).trans rfl
theorem te_368_2027 : (pT M_368).find? (fun e => e.1 == 2027) = some (2027, .iadd, 0, 0) := (sk_105 2027 rfl).trans rfl
theorem te_368_2028 : (pT M_368).find? (fun e => e.1 == 2028) = some (2028, .iaload, 0, 0) := (sk_105 2028 rfl).trans rfl
theorem te_368_2029 : (pT M_368).find? (fun e => e.1 == 2029) = some (2029, .aload_n 0, 0, 0) := (sk_105 2029 rfl).trans rfl
theorem te_368_2030 : (pT M_368).find? (fun e => e.1 == 2030) = some (2030, .iload 4, 0, 0) := (sk_105 2030 rfl).trans rfl
theorem te_368_2032 : (pT M_368).find? (fun e => e.1 == 2032) = some (2032, .iconst 3, 0, 0) := (sk_105 2032 rfl).trans rfl
theorem te_368_2033 : (pT M_368).find? (fun e => e.1 == 2033) = some (2033, .iadd, 0, 0) := (sk_106 2033 rfl).trans rfl
theorem te_368_2034 : (pT M_368).find? (fun e => e.1 == 2034) = some (2034, .iaload, 0, 0) := (sk_106 2034 rfl).trans rfl
theorem te_368_2035 : (pT M_368).find? (fun e => e.1 == 2035) = some (2035, .ifCond .eq 7, 0, 0) := (sk_106 2035 rfl).trans rfl
theorem te_368_2038 : (pT M_368).find? (fun e => e.1 == 2038) = some (2038, .iconst 1, 0, 0) := (sk_106 2038 rfl).trans rfl
theorem te_368_2039 : (pT M_368).find? (fun e => e.1 == 2039) = some (2039, .goto 4, 0, 0) := (sk_106 2039 rfl).trans rfl
theorem te_368_2042 : (pT M_368).find? (fun e => e.1 == 2042) = some (2042, .iconst 0, 0, 0) := (sk_106 2042 rfl).trans rfl
theorem te_368_2043 : (pT M_368).find? (fun e => e.1 == 2043) = some (2043, .invokevirtual 314, 359, 0) := (sk_106 2043 rfl).trans rfl
theorem te_368_2046 : (pT M_368).find? (fun e => e.1 == 2046) = some (2046, .istore 6, 0, 0) := (sk_106 2046 rfl).trans rfl
theorem te_368_2048 : (pT M_368).find? (fun e => e.1 == 2048) = some (2048, .goto 268, 0, 0) := (sk_106 2048 rfl).trans rfl
theorem te_368_2051 : (pT M_368).find? (fun e => e.1 == 2051) = some (2051, .aload_n 1, 0, 0) := (sk_106 2051 rfl).trans rfl
theorem te_368_2052 : (pT M_368).find? (fun e => e.1 == 2052) = some (2052, .aload_n 0, 0, 0) := (sk_106 2052 rfl).trans rfl
theorem te_368_2053 : (pT M_368).find? (fun e => e.1 == 2053) = some (2053, .iload 4, 0, 0) := (sk_106 2053 rfl).trans rfl
theorem te_368_2055 : (pT M_368).find? (fun e => e.1 == 2055) = some (2055, .iconst 1, 0, 0) := (sk_107 2055 rfl).trans rfl
theorem te_368_2056 : (pT M_368).find? (fun e => e.1 == 2056) = some (2056, .iadd, 0, 0) := (sk_107 2056 rfl).trans rfl
theorem te_368_2057 : (pT M_368).find? (fun e => e.1 == 2057) = some (2057, .iaload, 0, 0) := (sk_107 2057 rfl).trans rfl
theorem te_368_2058 : (pT M_368).find? (fun e => e.1 == 2058) = some (2058, .aload_n 0, 0, 0) := (sk_107 2058 rfl).trans rfl
theorem te_368_2059 : (pT M_368).find? (fun e => e.1 == 2059) = some (2059, .iload 4, 0, 0) := (sk_107 2059 rfl).trans rfl
theorem te_368_2061 : (pT M_368).find? (fun e => e.1 == 2061) = some (2061, .iconst 2, 0, 0) := (sk_107 2061 rfl).trans rfl
theorem te_368_2062 : (pT M_368).find? (fun e => e.1 == 2062) = some (2062, .iadd, 0, 0) := (sk_107 2062 rfl).trans rfl
theorem te_368_2063 : (pT M_368).find? (fun e => e.1 == 2063) = some (2063, .iaload, 0, 0) := (sk_107 2063 rfl).trans rfl
theorem te_368_2064 : (pT M_368).find? (fun e => e.1 == 2064) = some (2064, .aload_n 0, 0, 0) := (sk_107 2064 rfl).trans rfl
theorem te_368_2065 : (pT M_368).find? (fun e => e.1 == 2065) = some (2065, .iload 4, 0, 0) := (sk_107 2065 rfl).trans rfl
theorem te_368_2067 : (pT M_368).find? (fun e => e.1 == 2067) = some (2067, .iconst 3, 0, 0) := (sk_107 2067 rfl).trans rfl
theorem te_368_2068 : (pT M_368).find? (fun e => e.1 == 2068) = some (2068, .iadd, 0, 0) := (sk_107 2068 rfl).trans rfl
theorem te_368_2069 : (pT M_368).find? (fun e => e.1 == 2069) = some (2069, .iaload, 0, 0) := (sk_108 2069 rfl).trans rfl
theorem te_368_2070 : (pT M_368).find? (fun e => e.1 == 2070) = some (2070, .aload_n 3, 0, 0) := (sk_108 2070 rfl).trans rfl
theorem te_368_2071 : (pT M_368).find? (fun e => e.1 == 2071) = some (2071, .invokestatic 315, 206, 8) := (sk_108 2071 rfl).trans rfl
theorem te_368_2074 : (pT M_368).find? (fun e => e.1 == 2074) = some (2074, .istore 5, 0, 0) := (sk_108 2074 rfl).trans rfl
theorem te_368_2076 : (pT M_368).find? (fun e => e.1 == 2076) = some (2076, .aload_n 2, 0, 0) := (sk_108 2076 rfl).trans rfl
theorem te_368_2077 : (pT M_368).find? (fun e => e.1 == 2077) = some (2077, .aload_n 0, 0, 0) := (sk_108 2077 rfl).trans rfl
theorem te_368_2078 : (pT M_368).find? (fun e => e.1 == 2078) = some (2078, .iload 4, 0, 0) := (sk_108 2078 rfl).trans rfl
theorem te_368_2080 : (pT M_368).find? (fun e => e.1 == 2080) = some (2080, .iconst 1, 0, 0) := (sk_108 2080 rfl).trans rfl
theorem te_368_2081 : (pT M_368).find? (fun e => e.1 == 2081) = some (2081, .iadd, 0, 0) := (sk_108 2081 rfl).trans rfl
theorem te_368_2082 : (pT M_368).find? (fun e => e.1 == 2082) = some (2082, .iaload, 0, 0) := (sk_108 2082 rfl).trans rfl
theorem te_368_2083 : (pT M_368).find? (fun e => e.1 == 2083) = some (2083, .aload_n 0, 0, 0) := (sk_108 2083 rfl).trans rfl
theorem te_368_2084 : (pT M_368).find? (fun e => e.1 == 2084) = some (2084, .iload 4, 0, 0) := (sk_108 2084 rfl).trans rfl
theorem te_368_2086 : (pT M_368).find? (fun e => e.1 == 2086) = some (2086, .iconst 2, 0, 0) := (sk_109 2086 rfl).trans rfl
theorem te_368_2087 : (pT M_368).find? (fun e => e.1 == 2087) = some (2087, .iadd, 0, 0) := (sk_109 2087 rfl).trans rfl
theorem te_368_2088 : (pT M_368).find? (fun e => e.1 == 2088) = some (2088, .iaload, 0, 0) := (sk_109 2088 rfl).trans rfl
theorem te_368_2089 : (pT M_368).find? (fun e => e.1 == 2089) = some (2089, .aload_n 0, 0, 0) := (sk_109 2089 rfl).trans rfl
theorem te_368_2090 : (pT M_368).find? (fun e => e.1 == 2090) = some (2090, .iload 4, 0, 0) := (sk_109 2090 rfl).trans rfl
theorem te_368_2092 : (pT M_368).find? (fun e => e.1 == 2092) = some (2092, .iconst 3, 0, 0) := (sk_109 2092 rfl).trans rfl
theorem te_368_2093 : (pT M_368).find? (fun e => e.1 == 2093) = some (2093, .iadd, 0, 0) := (sk_109 2093 rfl).trans rfl
theorem te_368_2094 : (pT M_368).find? (fun e => e.1 == 2094) = some (2094, .iaload, 0, 0) := (sk_109 2094 rfl).trans rfl
theorem te_368_2095 : (pT M_368).find? (fun e => e.1 == 2095) = some (2095, .invokevirtual 317, 361, 0) := (sk_109 2095 rfl).trans rfl
theorem te_368_2098 : (pT M_368).find? (fun e => e.1 == 2098) = some (2098, .istore 6, 0, 0) := (sk_109 2098 rfl).trans rfl
theorem te_368_2100 : (pT M_368).find? (fun e => e.1 == 2100) = some (2100, .goto 216, 0, 0) := (sk_109 2100 rfl).trans rfl
theorem te_368_2103 : (pT M_368).find? (fun e => e.1 == 2103) = some (2103, .aload_n 1, 0, 0) := (sk_109 2103 rfl).trans rfl
theorem te_368_2104 : (pT M_368).find? (fun e => e.1 == 2104) = some (2104, .aload_n 0, 0, 0) := (sk_110 2104 rfl).trans rfl
theorem te_368_2105 : (pT M_368).find? (fun e => e.1 == 2105) = some (2105, .iload 4, 0, 0) := (sk_110 2105 rfl).trans rfl
theorem te_368_2107 : (pT M_368).find? (fun e => e.1 == 2107) = some (2107, .iconst 1, 0, 0) := (sk_110 2107 rfl).trans rfl
theorem te_368_2108 : (pT M_368).find? (fun e => e.1 == 2108) = some (2108, .iadd, 0, 0) := (sk_110 2108 rfl).trans rfl
theorem te_368_2109 : (pT M_368).find? (fun e => e.1 == 2109) = some (2109, .iaload, 0, 0) := (sk_110 2109 rfl).trans rfl
theorem te_368_2110 : (pT M_368).find? (fun e => e.1 == 2110) = some (2110, .aload_n 0, 0, 0) := (sk_110 2110 rfl).trans rfl
theorem te_368_2111 : (pT M_368).find? (fun e => e.1 == 2111) = some (2111, .iload 4, 0, 0) := (sk_110 2111 rfl).trans rfl
theorem te_368_2113 : (pT M_368).find? (fun e => e.1 == 2113) = some (2113, .iconst 2, 0, 0) := (sk_110 2113 rfl).trans rfl
theorem te_368_2114 : (pT M_368).find? (fun e => e.1 == 2114) = some (2114, .iadd, 0, 0) := (sk_110 2114 rfl).trans rfl
theorem te_368_2115 : (pT M_368).find? (fun e => e.1 == 2115) = some (2115, .iaload, 0, 0) := (sk_110 2115 rfl).trans rfl
theorem te_368_2116 : (pT M_368).find? (fun e => e.1 == 2116) = some (2116, .aload_n 3, 0, 0) := (sk_110 2116 rfl).trans rfl
theorem te_368_2117 : (pT M_368).find? (fun e => e.1 == 2117) = some (2117, .invokestatic 318, 209, 8) := (sk_110 2117 rfl).trans rfl
theorem te_368_2120 : (pT M_368).find? (fun e => e.1 == 2120) = some (2120, .istore 5, 0, 0) := (sk_111 2120 rfl).trans rfl
theorem te_368_2122 : (pT M_368).find? (fun e => e.1 == 2122) = some (2122, .aload_n 2, 0, 0) := (sk_111 2122 rfl).trans rfl
theorem te_368_2123 : (pT M_368).find? (fun e => e.1 == 2123) = some (2123, .aload_n 0, 0, 0) := (sk_111 2123 rfl).trans rfl
theorem te_368_2124 : (pT M_368).find? (fun e => e.1 == 2124) = some (2124, .iload 4, 0, 0) := (sk_111 2124 rfl).trans rfl
theorem te_368_2126 : (pT M_368).find? (fun e => e.1 == 2126) = some (2126, .iconst 1, 0, 0) := (sk_111 2126 rfl).trans rfl
theorem te_368_2127 : (pT M_368).find? (fun e => e.1 == 2127) = some (2127, .iadd, 0, 0) := (sk_111 2127 rfl).trans rfl
theorem te_368_2128 : (pT M_368).find? (fun e => e.1 == 2128) = some (2128, .iaload, 0, 0) := (sk_111 2128 rfl).trans rfl
theorem te_368_2129 : (pT M_368).find? (fun e => e.1 == 2129) = some (2129, .aload_n 0, 0, 0) := (sk_111 2129 rfl).trans rfl
theorem te_368_2130 : (pT M_368).find? (fun e => e.1 == 2130) = some (2130, .iload 4, 0, 0) := (sk_111 2130 rfl).trans rfl
theorem te_368_2132 : (pT M_368).find? (fun e => e.1 == 2132) = some (2132, .iconst 2, 0, 0) := (sk_111 2132 rfl).trans rfl
theorem te_368_2133 : (pT M_368).find? (fun e => e.1 == 2133) = some (2133, .iadd, 0, 0) := (sk_111 2133 rfl).trans rfl
theorem te_368_2134 : (pT M_368).find? (fun e => e.1 == 2134) = some (2134, .iaload, 0, 0) := (sk_111 2134 rfl).trans rfl
theorem te_368_2135 : (pT M_368).find? (fun e => e.1 == 2135) = some (2135, .invokevirtual 320, 362, 0) := (sk_112 2135 rfl).trans rfl
theorem te_368_2138 : (pT M_368).find? (fun e => e.1 == 2138) = some (2138, .istore 6, 0, 0) := (sk_112 2138 rfl).trans rfl
theorem te_368_2140 : (pT M_368).find? (fun e => e.1 == 2140) = some (2140, .goto 176, 0, 0) := (sk_112 2140 rfl).trans rfl
theorem te_368_2143 : (pT M_368).find? (fun e => e.1 == 2143) = some (2143, .aload_n 1, 0, 0) := (sk_112 2143 rfl).trans rfl
theorem te_368_2144 : (pT M_368).find? (fun e => e.1 == 2144) = some (2144, .aload_n 0, 0, 0) := (sk_112 2144 rfl).trans rfl
theorem te_368_2145 : (pT M_368).find? (fun e => e.1 == 2145) = some (2145, .iload 4, 0, 0) := (sk_112 2145 rfl).trans rfl
theorem te_368_2147 : (pT M_368).find? (fun e => e.1 == 2147) = some (2147, .iconst 1, 0, 0) := (sk_112 2147 rfl).trans rfl
theorem te_368_2148 : (pT M_368).find? (fun e => e.1 == 2148) = some (2148, .iadd, 0, 0) := (sk_112 2148 rfl).trans rfl
theorem te_368_2149 : (pT M_368).find? (fun e => e.1 == 2149) = some (2149, .iaload, 0, 0) := (sk_112 2149 rfl).trans rfl
theorem te_368_2150 : (pT M_368).find? (fun e => e.1 == 2150) = some (2150, .aload_n 0, 0, 0) := (sk_112 2150 rfl).trans rfl
theorem te_368_2151 : (pT M_368).find? (fun e => e.1 == 2151) = some (2151, .iload 4, 0, 0) := (sk_112 2151 rfl).trans rfl
theorem te_368_2153 : (pT M_368).find? (fun e => e.1 == 2153) = some (2153, .iconst 2, 0, 0) := (sk_112 2153 rfl).trans rfl
theorem te_368_2154 : (pT M_368).find? (fun e => e.1 == 2154) = some (2154, .iadd, 0, 0) := (sk_113 2154 rfl).trans rfl
theorem te_368_2155 : (pT M_368).find? (fun e => e.1 == 2155) = some (2155, .iaload, 0, 0) := (sk_113 2155 rfl).trans rfl
theorem te_368_2156 : (pT M_368).find? (fun e => e.1 == 2156) = some (2156, .aload_n 0, 0, 0) := (sk_113 2156 rfl).trans rfl
theorem te_368_2157 : (pT M_368).find? (fun e => e.1 == 2157) = some (2157, .iload 4, 0, 0) := (sk_113 2157 rfl).trans rfl
theorem te_368_2159 : (pT M_368).find? (fun e => e.1 == 2159) = some (2159, .iconst 3, 0, 0) := (sk_113 2159 rfl).trans rfl
theorem te_368_2160 : (pT M_368).find? (fun e => e.1 == 2160) = some (2160, .iadd, 0, 0) := (sk_113 2160 rfl).trans rfl
theorem te_368_2161 : (pT M_368).find? (fun e => e.1 == 2161) = some (2161, .iaload, 0, 0) := (sk_113 2161 rfl).trans rfl
theorem te_368_2162 : (pT M_368).find? (fun e => e.1 == 2162) = some (2162, .aload_n 0, 0, 0) := (sk_113 2162 rfl).trans rfl
theorem te_368_2163 : (pT M_368).find? (fun e => e.1 == 2163) = some (2163, .iload 4, 0, 0) := (sk_113 2163 rfl).trans rfl
theorem te_368_2165 : (pT M_368).find? (fun e => e.1 == 2165) = some (2165, .iconst 4, 0, 0) := (sk_113 2165 rfl).trans rfl
theorem te_368_2166 : (pT M_368).find? (fun e => e.1 == 2166) = some (2166, .iadd, 0, 0) := (sk_113 2166 rfl).trans rfl
theorem te_368_2167 : (pT M_368).find? (fun e => e.1 == 2167) = some (2167, .iaload, 0, 0) := (sk_113 2167 rfl).trans rfl
theorem te_368_2168 : (pT M_368).find? (fun e => e.1 == 2168) = some (2168, .aload_n 3, 0, 0) := (sk_114 2168 rfl).trans rfl
theorem te_368_2169 : (pT M_368).find? (fun e => e.1 == 2169) = some (2169, .invokestatic 321, 213, 8) := (sk_114 2169 rfl).trans rfl
theorem te_368_2172 : (pT M_368).find? (fun e => e.1 == 2172) = some (2172, .istore 5, 0, 0) := (sk_114 2172 rfl).trans rfl
theorem te_368_2174 : (pT M_368).find? (fun e => e.1 == 2174) = some (2174, .aload_n 2, 0, 0) := (sk_114 2174 rfl).trans rfl
theorem te_368_2175 : (pT M_368).find? (fun e => e.1 == 2175) = some (2175, .aload_n 0, 0, 0) := (sk_114 2175 rfl).trans rfl
theorem te_368_2176 : (pT M_368).find? (fun e => e.1 == 2176) = some (2176, .iload 4, 0, 0) := (sk_114 2176 rfl).trans rfl
theorem te_368_2178 : (pT M_368).find? (fun e => e.1 == 2178) = some (2178, .iconst 1, 0, 0) := (sk_114 2178 rfl).trans rfl
theorem te_368_2179 : (pT M_368).find? (fun e => e.1 == 2179) = some (2179, .iadd, 0, 0) := (sk_114 2179 rfl).trans rfl
theorem te_368_2180 : (pT M_368).find? (fun e => e.1 == 2180) = some (2180, .iaload, 0, 0) := (sk_114 2180 rfl).trans rfl
theorem te_368_2181 : (pT M_368).find? (fun e => e.1 == 2181) = some (2181, .aload_n 0, 0, 0) := (sk_114 2181 rfl).trans rfl
theorem te_368_2182 : (pT M_368).find? (fun e => e.1 == 2182) = some (2182, .iload 4, 0, 0) := (sk_114 2182 rfl).trans rfl
theorem te_368_2184 : (pT M_368).find? (fun e => e.1 == 2184) = some (2184, .iconst 2, 0, 0) := (sk_114 2184 rfl).trans rfl
theorem te_368_2185 : (pT M_368).find? (fun e => e.1 == 2185) = some (2185, .iadd, 0, 0) := (sk_115 2185 rfl).trans rfl
theorem te_368_2186 : (pT M_368).find? (fun e => e.1 == 2186) = some (2186, .iaload, 0, 0) := (sk_115 2186 rfl).trans rfl
theorem te_368_2187 : (pT M_368).find? (fun e => e.1 == 2187) = some (2187, .aload_n 0, 0, 0) := (sk_115 2187 rfl).trans rfl
theorem te_368_2188 : (pT M_368).find? (fun e => e.1 == 2188) = some (2188, .iload 4, 0, 0) := (sk_115 2188 rfl).trans rfl
theorem te_368_2190 : (pT M_368).find? (fun e => e.1 == 2190) = some (2190, .iconst 3, 0, 0) := (sk_115 2190 rfl).trans rfl
theorem te_368_2191 : (pT M_368).find? (fun e => e.1 == 2191) = some (2191, .iadd, 0, 0) := (sk_115 2191 rfl).trans rfl
theorem te_368_2192 : (pT M_368).find? (fun e => e.1 == 2192) = some (2192, .iaload, 0, 0) := (sk_115 2192 rfl).trans rfl
theorem te_368_2193 : (pT M_368).find? (fun e => e.1 == 2193) = some (2193, .aload_n 0, 0, 0) := (sk_115 2193 rfl).trans rfl
theorem te_368_2194 : (pT M_368).find? (fun e => e.1 == 2194) = some (2194, .iload 4, 0, 0) := (sk_115 2194 rfl).trans rfl
theorem te_368_2196 : (pT M_368).find? (fun e => e.1 == 2196) = some (2196, .iconst 4, 0, 0) := (sk_115 2196 rfl).trans rfl
theorem te_368_2197 : (pT M_368).find? (fun e => e.1 == 2197) = some (2197, .iadd, 0, 0) := (sk_115 2197 rfl).trans rfl
theorem te_368_2198 : (pT M_368).find? (fun e => e.1 == 2198) = some (2198, .iaload, 0, 0) := (sk_115 2198 rfl).trans rfl
theorem te_368_2199 : (pT M_368).find? (fun e => e.1 == 2199) = some (2199, .invokevirtual 323, 364, 0) := (sk_116 2199 rfl).trans rfl
theorem te_368_2202 : (pT M_368).find? (fun e => e.1 == 2202) = some (2202, .istore 6, 0, 0) := (sk_116 2202 rfl).trans rfl
theorem te_368_2204 : (pT M_368).find? (fun e => e.1 == 2204) = some (2204, .goto 112, 0, 0) := (sk_116 2204 rfl).trans rfl
theorem te_368_2207 : (pT M_368).find? (fun e => e.1 == 2207) = some (2207, .aload_n 1, 0, 0) := (sk_116 2207 rfl).trans rfl
theorem te_368_2208 : (pT M_368).find? (fun e => e.1 == 2208) = some (2208, .aload_n 0, 0, 0) := (sk_116 2208 rfl).trans rfl
theorem te_368_2209 : (pT M_368).find? (fun e => e.1 == 2209) = some (2209, .iload 4, 0, 0) := (sk_116 2209 rfl).trans rfl
theorem te_368_2211 : (pT M_368).find? (fun e => e.1 == 2211) = some (2211, .iconst 1, 0, 0) := (sk_116 2211 rfl).trans rfl
theorem te_368_2212 : (pT M_368).find? (fun e => e.1 == 2212) = some (2212, .iadd, 0, 0) := (sk_116 2212 rfl).trans rfl
theorem te_368_2213 : (pT M_368).find? (fun e => e.1 == 2213) = some (2213, .iaload, 0, 0) := (sk_116 2213 rfl).trans rfl
theorem te_368_2214 : (pT M_368).find? (fun e => e.1 == 2214) = some (2214, .aload_n 3, 0, 0) := (sk_116 2214 rfl).trans rfl
theorem te_368_2215 : (pT M_368).find? (fun e => e.1 == 2215) = some (2215, .invokestatic 324, 218, 8) := (sk_116 2215 rfl).trans rfl
theorem te_368_2218 : (pT M_368).find? (fun e => e.1 == 2218) = some (2218, .istore 5, 0, 0) := (sk_116 2218 rfl).trans rfl
theorem te_368_2220 : (pT M_368).find? (fun e => e.1 == 2220) = some (2220, .aload_n 2, 0, 0) := (sk_117 2220 rfl).trans rfl
theorem te_368_2221 : (pT M_368).find? (fun e => e.1 == 2221) = some (2221, .aload_n 0, 0, 0) := (sk_117 2221 rfl).trans rfl
theorem te_368_2222 : (pT M_368).find? (fun e => e.1 == 2222) = some (2222, .iload 4, 0, 0) := (sk_117 2222 rfl).trans rfl
theorem te_368_2224 : (pT M_368).find? (fun e => e.1 == 2224) = some (2224, .iconst 1, 0, 0) := (sk_117 2224 rfl).trans rfl
theorem te_368_2225 : (pT M_368).find? (fun e => e.1 == 2225) = some (2225, .iadd, 0, 0) := (sk_117 2225 rfl).trans rfl
theorem te_368_2226 : (pT M_368).find? (fun e => e.1 == 2226) = some (2226, .iaload, 0, 0) := (sk_117 2226 rfl).trans rfl
theorem te_368_2227 : (pT M_368).find? (fun e => e.1 == 2227) = some (2227, .invokevirtual 326, 336, 0) := (sk_117 2227 rfl).trans rfl
theorem te_368_2230 : (pT M_368).find? (fun e => e.1 == 2230) = some (2230, .istore 6, 0, 0) := (sk_117 2230 rfl).trans rfl
theorem te_368_2232 : (pT M_368).find? (fun e => e.1 == 2232) = some (2232, .goto 84, 0, 0) := (sk_117 2232 rfl).trans rfl
theorem te_368_2235 : (pT M_368).find? (fun e => e.1 == 2235) = some (2235, .aload_n 1, 0, 0) := (sk_117 2235 rfl).trans rfl
theorem te_368_2236 : (pT M_368).find? (fun e => e.1 == 2236) = some (2236, .aload_n 0, 0, 0) := (sk_117 2236 rfl).trans rfl
theorem te_368_2237 : (pT M_368).find? (fun e => e.1 == 2237) = some (2237, .iload 4, 0, 0) := (sk_117 2237 rfl).trans rfl
theorem te_368_2239 : (pT M_368).find? (fun e => e.1 == 2239) = some (2239, .iconst 1, 0, 0) := (sk_118 2239 rfl).trans rfl
theorem te_368_2240 : (pT M_368).find? (fun e => e.1 == 2240) = some (2240, .iadd, 0, 0) := (sk_118 2240 rfl).trans rfl
theorem te_368_2241 : (pT M_368).find? (fun e => e.1 == 2241) = some (2241, .iaload, 0, 0) := (sk_118 2241 rfl).trans rfl
theorem te_368_2242 : (pT M_368).find? (fun e => e.1 == 2242) = some (2242, .aload_n 3, 0, 0) := (sk_118 2242 rfl).trans rfl
theorem te_368_2243 : (pT M_368).find? (fun e => e.1 == 2243) = some (2243, .invokestatic 327, 220, 8) := (sk_118 2243 rfl).trans rfl
theorem te_368_2246 : (pT M_368).find? (fun e => e.1 == 2246) = some (2246, .istore 5, 0, 0) := (sk_118 2246 rfl).trans rfl
theorem te_368_2248 : (pT M_368).find? (fun e => e.1 == 2248) = some (2248, .aload_n 2, 0, 0) := (sk_118 2248 rfl).trans rfl
theorem te_368_2249 : (pT M_368).find? (fun e => e.1 == 2249) = some (2249, .aload_n 0, 0, 0) := (sk_118 2249 rfl).trans rfl
theorem te_368_2250 : (pT M_368).find? (fun e => e.1 == 2250) = some (2250, .iload 4, 0, 0) := (sk_118 2250 rfl).trans rfl
theorem te_368_2252 : (pT M_368).find? (fun e => e.1 == 2252) = some (2252, .iconst 1, 0, 0) := (sk_118 2252 rfl).trans rfl
theorem te_368_2253 : (pT M_368).find? (fun e => e.1 == 2253) = some (2253, .iadd, 0, 0) := (sk_118 2253 rfl).trans rfl
theorem te_368_2254 : (pT M_368).find? (fun e => e.1 == 2254) = some (2254, .iaload, 0, 0) := (sk_118 2254 rfl).trans rfl
theorem te_368_2255 : (pT M_368).find? (fun e => e.1 == 2255) = some (2255, .invokevirtual 329, 357, 0) := (sk_119 2255 rfl).trans rfl
theorem te_368_2258 : (pT M_368).find? (fun e => e.1 == 2258) = some (2258, .istore 6, 0, 0) := (sk_119 2258 rfl).trans rfl
theorem te_368_2260 : (pT M_368).find? (fun e => e.1 == 2260) = some (2260, .goto 56, 0, 0) := (sk_119 2260 rfl).trans rfl
theorem lc_34 {S : Nat × (Nat → Int32)} {lv : LV} {h : PH} {c s : Nat} {i : Int32} (hS : S.1 ≤ 3072) (hl : LwS lv i) (hi : 0 ≤ i.toInt ∧ i.toInt + 5 < S.1) (hL : LR h) (hc : c + 8 ≤ 601024) (hs : s + 48 ≤ 7293033) (Nx : ∀ lv' h' c' s', LwS lv' i → LR h' → c' ≤ c + 8 → s' ≤ s + 48 → Vx (Ex S 24) S M_368 [] Q1 2316 lv' [] h' c' s') : Vx (Ex S 24) S M_368 [] Q1 1783 lv [] h c s := by
  have hC := Ex.mono S 24
  refine Vx.go hC te_368_1783 ?_
  refine ⟨_, hl.2.1, ⟨0, Or.inl rfl⟩, ?_⟩
  refine sc_load hC (k := 1) hl te_368_1784 te_368_1785 te_368_1787 te_368_1788 te_368_1789 (sc_in hS hi (by decide)) ?_
  refine Vx.go hC te_368_1790 ?_
  refine ⟨by decide, fun q => ?_, fun q => ?_⟩
  · show Vx (Ex S 24) S M_368 [] Q1 1797 lv [.ref 0] h c s
    refine Vx.go hC te_368_1797 ?_
    refine Vx.go hC te_368_1798 ?_
    refine ⟨_, hl.2.2.2.1, ⟨173, Or.inl rfl⟩, ?_⟩
    refine Vx.go hC te_368_1799 ?_
    refine Or.inr ⟨by decide, ?_⟩
    refine p_call_mk (av := [.ref 0, .int (Int32.ofInt 0), .ref 173]) (rest := []) mt_187 rfl (by decide) (show c + 1 ≤ 601024 by omega) (show s + 6 ≤ 7293033 by omega) (fun q => by cases q) ?_
    refine g_187 (n := 6) hL (fun r3 h1 hL2 => ?_)
    show Vx (Ex S 24) S M_368 [] Q1 1802 lv [.int r3] h1 (c + 1) (s + 6)
    refine Vx.go hC te_368_1802 ?_
    refine ⟨by decide, ?_⟩
    have hl4 := LwS.st (j := 5) (v := .int r3) (by omega) hl
    show Vx (Ex S 24) S M_368 [] Q1 1804 (px_s1 lv 5 (.int r3)) [] h1 (c + 1) (s + 6)
    refine Vx.go hC te_368_1804 ?_
    refine ⟨_, hl4.2.2.1, ⟨143, Or.inl rfl⟩, ?_⟩
    refine sc_load hC (k := 1) hl4 te_368_1805 te_368_1806 te_368_1808 te_368_1809 te_368_1810 (sc_in hS hi (by decide)) ?_
    refine Vx.go hC te_368_1811 ?_
    refine ⟨by decide, fun q => ?_, fun q => ?_⟩
    · show Vx (Ex S 24) S M_368 [] Q1 1818 (px_s1 lv 5 (.int r3)) [.ref 143] h1 (c + 1) (s + 6)
      refine Vx.go hC te_368_1818 ?_
      refine Vx.go hC te_368_1819 ?_
      obtain ⟨gs8, gs8g⟩ := hL2.obj (A := 143) rfl
      have hcall9 := ref_call (S := S) (n := 24) (μ := 343) (args := [.inr 143, .inl ((Int32.ofInt 0) : Int32).toInt]) (h := h1) (fun v hv => by simp only [List.mem_cons, List.not_mem_nil, or_false] at hv; rcases hv with rfl | rfl <;> first | trivial | exact wiI _) hL2 (fun mem hr => f_343 hr (fun r m' a b => ⟨a, b⟩))
      simp only [List.map_cons, List.map_nil, wv, Int32.ofInt_toInt] at hcall9
      refine p_call_mk (av := [.ref 143, .int (Int32.ofInt 0)]) (rest := []) mt_343 rfl (by decide) (show (c + 1) + 0 ≤ 601024 by omega) (show (s + 6) + 0 ≤ 7293033 by omega) (fun _ => ⟨143, gs8, rfl, gs8g⟩) ?_
      refine hC _ _ _ _ _ ?_ hcall9
      rintro _ h5 ⟨hL6, r7, rfl⟩
      show Vx (Ex S 24) S M_368 [] Q1 1822 (px_s1 lv 5 (.int r3)) [.int r7] h5 (c + 1) (s + 6)
      refine Vx.go hC te_368_1822 ?_
      refine ⟨by decide, ?_⟩
      have hl10 := LwS.st (j := 6) (v := .int r7) (by omega) hl4
      show Vx (Ex S 24) S M_368 [] Q1 1824 (px_s1 (px_s1 lv 5 (.int r3)) 6 (.int r7)) [] h5 (c + 1) (s + 6)
      refine Vx.go hC te_368_1824 ?_
      refine ⟨by decide, ?_⟩
      exact Nx _ _ _ _ hl10 hL6 (by omega) (by omega)
    · show Vx (Ex S 24) S M_368 [] Q1 1814 (px_s1 lv 5 (.int r3)) [.ref 143] h1 (c + 1) (s + 6)
      refine Vx.go hC te_368_1814 ?_
      refine Vx.go hC te_368_1815 ?_
      refine ⟨by decide, ?_⟩
      show Vx (Ex S 24) S M_368 [] Q1 1819 (px_s1 lv 5 (.int r3)) [.int (Int32.ofInt 1), .ref 143] h1 (c + 1) (s + 6)
      refine Vx.go hC te_368_1819 ?_
      obtain ⟨gs14, gs14g⟩ := hL2.obj (A := 143) rfl
      have hcall15 := ref_call (S := S) (n := 24) (μ := 343) (args := [.inr 143, .inl ((Int32.ofInt 1) : Int32).toInt]) (h := h1) (fun v hv => by simp only [List.mem_cons, List.not_mem_nil, or_false] at hv; rcases hv with rfl | rfl <;> first | trivial | exact wiI _) hL2 (fun mem hr => f_343 hr (fun r m' a b => ⟨a, b⟩))
      simp only [List.map_cons, List.map_nil, wv, Int32.ofInt_toInt] at hcall15
      refine p_call_mk (av := [.ref 143, .int (Int32.ofInt 1)]) (rest := []) mt_343 rfl (by decide) (show (c + 1) + 0 ≤ 601024 by omega) (show (s + 6) + 0 ≤ 7293033 by omega) (fun _ => ⟨143, gs14, rfl, gs14g⟩) ?_
      refine hC _ _ _ _ _ ?_ hcall15
      rintro _ h11 ⟨hL12, r13, rfl⟩
      show Vx (Ex S 24) S M_368 [] Q1 1822 (px_s1 lv 5 (.int r3)) [.int r13] h11 (c + 1) (s + 6)
      refine Vx.go hC te_368_1822 ?_
      refine ⟨by decide, ?_⟩
      have hl16 := LwS.st (j := 6) (v := .int r13) (by omega) hl4
      show Vx (Ex S 24) S M_368 [] Q1 1824 (px_s1 (px_s1 lv 5 (.int r3)) 6 (.int r13)) [] h11 (c + 1) (s + 6)
      refine Vx.go hC te_368_1824 ?_
      refine ⟨by decide, ?_⟩
      exact Nx _ _ _ _ hl16 hL12 (by omega) (by omega)
  · show Vx (Ex S 24) S M_368 [] Q1 1793 lv [.ref 0] h c s
    refine Vx.go hC te_368_1793 ?_
    refine Vx.go hC te_368_1794 ?_
    refine ⟨by decide, ?_⟩
    show Vx (Ex S 24) S M_368 [] Q1 1798 lv [.int (Int32.ofInt 1), .ref 0] h c s
    refine Vx.go hC te_368_1798 ?_
    refine ⟨_, hl.2.2.2.1, ⟨173, Or.inl rfl⟩, ?_⟩
    refine Vx.go hC te_368_1799 ?_
    refine Or.inr ⟨by decide, ?_⟩
    refine p_call_mk (av := [.ref 0, .int (Int32.ofInt 1), .ref 173]) (rest := []) mt_187 rfl (by decide) (show c + 1 ≤ 601024 by omega) (show s + 6 ≤ 7293033 by omega) (fun q => by cases q) ?_
    refine g_187 (n := 6) hL (fun r19 h17 hL18 => ?_)
    show Vx (Ex S 24) S M_368 [] Q1 1802 lv [.int r19] h17 (c + 1) (s + 6)
    refine Vx.go hC te_368_1802 ?_
    refine ⟨by decide, ?_⟩
    have hl20 := LwS.st (j := 5) (v := .int r19) (by omega) hl
    show Vx (Ex S 24) S M_368 [] Q1 1804 (px_s1 lv 5 (.int r19)) [] h17 (c + 1) (s + 6)
    refine Vx.go hC te_368_1804 ?_
    refine ⟨_, hl20.2.2.1, ⟨143, Or.inl rfl⟩, ?_⟩
    refine sc_load hC (k := 1) hl20 te_368_1805 te_368_1806 te_368_1808 te_368_1809 te_368_1810 (sc_in hS hi (by decide)) ?_
    refine Vx.go hC te_368_1811 ?_
    refine ⟨by decide, fun q => ?_, fun q => ?_⟩
    · show Vx (Ex S 24) S M_368 [] Q1 1818 (px_s1 lv 5 (.int r19)) [.ref 143] h17 (c + 1) (s + 6)
      refine Vx.go hC te_368_1818 ?_
      refine Vx.go hC te_368_1819 ?_
      obtain ⟨gs24, gs24g⟩ := hL18.obj (A := 143) rfl
      have hcall25 := ref_call (S := S) (n := 24) (μ := 343) (args := [.inr 143, .inl ((Int32.ofInt 0) : Int32).toInt]) (h := h17) (fun v hv => by simp only [List.mem_cons, List.not_mem_nil, or_false] at hv; rcases hv with rfl | rfl <;> first | trivial | exact wiI _) hL18 (fun mem hr => f_343 hr (fun r m' a b => ⟨a, b⟩))
      simp only [List.map_cons, List.map_nil, wv, Int32.ofInt_toInt] at hcall25
      refine p_call_mk (av := [.ref 143, .int (Int32.ofInt 0)]) (rest := []) mt_343 rfl (by decide) (show (c + 1) + 0 ≤ 601024 by omega) (show (s + 6) + 0 ≤ 7293033 by omega) (fun _ => ⟨143, gs24, rfl, gs24g⟩) ?_
      refine hC _ _ _ _ _ ?_ hcall25
      rintro _ h21 ⟨hL22, r23, rfl⟩
      show Vx (Ex S 24) S M_368 [] Q1 1822 (px_s1 lv 5 (.int r19)) [.int r23] h21 (c + 1) (s + 6)
      refine Vx.go hC te_368_1822 ?_
      refine ⟨by decide, ?_⟩
      have hl26 := LwS.st (j := 6) (v := .int r23) (by omega) hl20
      show Vx (Ex S 24) S M_368 [] Q1 1824 (px_s1 (px_s1 lv 5 (.int r19)) 6 (.int r23)) [] h21 (c + 1) (s + 6)
      refine Vx.go hC te_368_1824 ?_
      refine ⟨by decide, ?_⟩
      exact Nx _ _ _ _ hl26 hL22 (by omega) (by omega)
    · show Vx (Ex S 24) S M_368 [] Q1 1814 (px_s1 lv 5 (.int r19)) [.ref 143] h17 (c + 1) (s + 6)
      refine Vx.go hC te_368_1814 ?_
      refine Vx.go hC te_368_1815 ?_
      refine ⟨by decide, ?_⟩
      show Vx (Ex S 24) S M_368 [] Q1 1819 (px_s1 lv 5 (.int r19)) [.int (Int32.ofInt 1), .ref 143] h17 (c + 1) (s + 6)
      refine Vx.go hC te_368_1819 ?_
      obtain ⟨gs30, gs30g⟩ := hL18.obj (A := 143) rfl
      have hcall31 := ref_call (S := S) (n := 24) (μ := 343) (args := [.inr 143, .inl ((Int32.ofInt 1) : Int32).toInt]) (h := h17) (fun v hv => by simp only [List.mem_cons, List.not_mem_nil, or_false] at hv; rcases hv with rfl | rfl <;> first | trivial | exact wiI _) hL18 (fun mem hr => f_343 hr (fun r m' a b => ⟨a, b⟩))
      simp only [List.map_cons, List.map_nil, wv, Int32.ofInt_toInt] at hcall31
      refine p_call_mk (av := [.ref 143, .int (Int32.ofInt 1)]) (rest := []) mt_343 rfl (by decide) (show (c + 1) + 0 ≤ 601024 by omega) (show (s + 6) + 0 ≤ 7293033 by omega) (fun _ => ⟨143, gs30, rfl, gs30g⟩) ?_
      refine hC _ _ _ _ _ ?_ hcall31
      rintro _ h27 ⟨hL28, r29, rfl⟩
      show Vx (Ex S 24) S M_368 [] Q1 1822 (px_s1 lv 5 (.int r19)) [.int r29] h27 (c + 1) (s + 6)
      refine Vx.go hC te_368_1822 ?_
      refine ⟨by decide, ?_⟩
      have hl32 := LwS.st (j := 6) (v := .int r29) (by omega) hl20
      show Vx (Ex S 24) S M_368 [] Q1 1824 (px_s1 (px_s1 lv 5 (.int r19)) 6 (.int r29)) [] h27 (c + 1) (s + 6)
      refine Vx.go hC te_368_1824 ?_
      refine ⟨by decide, ?_⟩
      exact Nx _ _ _ _ hl32 hL28 (by omega) (by omega)
theorem lc_35 {S : Nat × (Nat → Int32)} {lv : LV} {h : PH} {c s : Nat} {i : Int32} (hS : S.1 ≤ 3072) (hl : LwS lv i) (hi : 0 ≤ i.toInt ∧ i.toInt + 5 < S.1) (hL : LR h) (hc : c + 8 ≤ 601024) (hs : s + 48 ≤ 7293033) (Nx : ∀ lv' h' c' s', LwS lv' i → LR h' → c' ≤ c + 8 → s' ≤ s + 48 → Vx (Ex S 24) S M_368 [] Q1 2316 lv' [] h' c' s') : Vx (Ex S 24) S M_368 [] Q1 1827 lv [] h c s := by
  have hC := Ex.mono S 24
  refine Vx.go hC te_368_1827 ?_
  refine ⟨_, hl.2.1, ⟨0, Or.inl rfl⟩, ?_⟩
  refine Vx.go hC te_368_1828 ?_
  refine ⟨_, hl.2.2.2.1, ⟨173, Or.inl rfl⟩, ?_⟩
  refine Vx.go hC te_368_1829 ?_
  refine Or.inr ⟨by decide, ?_⟩
  refine p_call_mk (av := [.ref 0, .ref 173]) (rest := []) mt_189 rfl (by decide) (show c + 1 ≤ 601024 by omega) (show s + 6 ≤ 7293033 by omega) (fun q => by cases q) ?_
  refine g_189 (n := 6) hL (fun r3 h1 hL2 => ?_)
  show Vx (Ex S 24) S M_368 [] Q1 1832 lv [.int r3] h1 (c + 1) (s + 6)
  refine Vx.go hC te_368_1832 ?_
  refine ⟨by decide, ?_⟩
  have hl4 := LwS.st (j := 5) (v := .int r3) (by omega) hl
  show Vx (Ex S 24) S M_368 [] Q1 1834 (px_s1 lv 5 (.int r3)) [] h1 (c + 1) (s + 6)
  refine Vx.go hC te_368_1834 ?_
  refine ⟨_, hl4.2.2.1, ⟨143, Or.inl rfl⟩, ?_⟩
  refine Vx.go hC te_368_1835 ?_
  obtain ⟨gs8, gs8g⟩ := hL2.obj (A := 143) rfl
  have hcall9 := ref_call (S := S) (n := 24) (μ := 348) (args := [.inr 143]) (h := h1) (fun v hv => by simp only [List.mem_cons, List.not_mem_nil, or_false] at hv; rw [hv]; trivial) hL2 (fun mem hr => f_348 hr (fun r m' a b => ⟨a, b⟩))
  simp only [List.map_cons, List.map_nil, wv, Int32.ofInt_toInt] at hcall9
  refine p_call_mk (av := [.ref 143]) (rest := []) mt_348 rfl (by decide) (show (c + 1) + 0 ≤ 601024 by omega) (show (s + 6) + 0 ≤ 7293033 by omega) (fun _ => ⟨143, gs8, rfl, gs8g⟩) ?_
  refine hC _ _ _ _ _ ?_ hcall9
  rintro _ h5 ⟨hL6, r7, rfl⟩
  show Vx (Ex S 24) S M_368 [] Q1 1838 (px_s1 lv 5 (.int r3)) [.int r7] h5 (c + 1) (s + 6)
  refine Vx.go hC te_368_1838 ?_
  refine ⟨by decide, ?_⟩
  have hl10 := LwS.st (j := 6) (v := .int r7) (by omega) hl4
  show Vx (Ex S 24) S M_368 [] Q1 1840 (px_s1 (px_s1 lv 5 (.int r3)) 6 (.int r7)) [] h5 (c + 1) (s + 6)
  refine Vx.go hC te_368_1840 ?_
  refine ⟨by decide, ?_⟩
  exact Nx _ _ _ _ hl10 hL6 (by omega) (by omega)
theorem lc_36 {S : Nat × (Nat → Int32)} {lv : LV} {h : PH} {c s : Nat} {i : Int32} (hS : S.1 ≤ 3072) (hl : LwS lv i) (hi : 0 ≤ i.toInt ∧ i.toInt + 5 < S.1) (hL : LR h) (hc : c + 8 ≤ 601024) (hs : s + 48 ≤ 7293033) (Nx : ∀ lv' h' c' s', LwS lv' i → LR h' → c' ≤ c + 8 → s' ≤ s + 48 → Vx (Ex S 24) S M_368 [] Q1 2316 lv' [] h' c' s') : Vx (Ex S 24) S M_368 [] Q1 1843 lv [] h c s := by
  have hC := Ex.mono S 24
  refine Vx.go hC te_368_1843 ?_
  refine ⟨_, hl.2.1, ⟨0, Or.inl rfl⟩, ?_⟩
  refine sc_load hC (k := 1) hl te_368_1844 te_368_1845 te_368_1847 te_368_1848 te_368_1849 (sc_in hS hi (by decide)) ?_
  refine Vx.go hC te_368_1850 ?_
  refine ⟨_, hl.2.2.2.1, ⟨173, Or.inl rfl⟩, ?_⟩
  refine Vx.go hC te_368_1851 ?_
  refine Or.inr ⟨by decide, ?_⟩
  refine p_call_mk (av := [.ref 0, .int (S.2 (i + Int32.ofInt 1).toNatClampNeg), .ref 173]) (rest := []) mt_191 rfl (by decide) (show c + 2 ≤ 601024 by omega) (show s + 12 ≤ 7293033 by omega) (fun q => by cases q) ?_
  refine g_191 (n := 6) hL (fun r3 h1 hL2 => ?_)
  show Vx (Ex S 24) S M_368 [] Q1 1854 lv [.int r3] h1 (c + 2) (s + 12)
  refine Vx.go hC te_368_1854 ?_
  refine ⟨by decide, ?_⟩
  have hl4 := LwS.st (j := 5) (v := .int r3) (by omega) hl
  show Vx (Ex S 24) S M_368 [] Q1 1856 (px_s1 lv 5 (.int r3)) [] h1 (c + 2) (s + 12)
  refine Vx.go hC te_368_1856 ?_
  refine ⟨_, hl4.2.2.1, ⟨143, Or.inl rfl⟩, ?_⟩
  refine sc_load hC (k := 1) hl4 te_368_1857 te_368_1858 te_368_1860 te_368_1861 te_368_1862 (sc_in hS hi (by decide)) ?_
  refine Vx.go hC te_368_1863 ?_
  obtain ⟨gs8, gs8g⟩ := hL2.obj (A := 143) rfl
  have hcall9 := ref_call (S := S) (n := 24) (μ := 349) (args := [.inr 143, .inl ((S.2 (i + Int32.ofInt 1).toNatClampNeg) : Int32).toInt]) (h := h1) (fun v hv => by simp only [List.mem_cons, List.not_mem_nil, or_false] at hv; rcases hv with rfl | rfl <;> first | trivial | exact wiI _) hL2 (fun mem hr => f_349 hr (fun r m' a b => ⟨a, b⟩))
  simp only [List.map_cons, List.map_nil, wv, Int32.ofInt_toInt] at hcall9
  refine p_call_mk (av := [.ref 143, .int (S.2 (i + Int32.ofInt 1).toNatClampNeg)]) (rest := []) mt_349 rfl (by decide) (show (c + 2) + 0 ≤ 601024 by omega) (show (s + 12) + 0 ≤ 7293033 by omega) (fun _ => ⟨143, gs8, rfl, gs8g⟩) ?_
  refine hC _ _ _ _ _ ?_ hcall9
  rintro _ h5 ⟨hL6, r7, rfl⟩
  show Vx (Ex S 24) S M_368 [] Q1 1866 (px_s1 lv 5 (.int r3)) [.int r7] h5 (c + 2) (s + 12)
  refine Vx.go hC te_368_1866 ?_
  refine ⟨by decide, ?_⟩
  have hl10 := LwS.st (j := 6) (v := .int r7) (by omega) hl4
  show Vx (Ex S 24) S M_368 [] Q1 1868 (px_s1 (px_s1 lv 5 (.int r3)) 6 (.int r7)) [] h5 (c + 2) (s + 12)
  refine Vx.go hC te_368_1868 ?_
  refine ⟨by decide, ?_⟩
  exact Nx _ _ _ _ hl10 hL6 (by omega) (by omega)
theorem lc_37 {S : Nat × (Nat → Int32)} {lv : LV} {h : PH} {c s : Nat} {i : Int32} (hS : S.1 ≤ 3072) (hl : LwS lv i) (hi : 0 ≤ i.toInt ∧ i.toInt + 5 < S.1) (hL : LR h) (hc : c + 8 ≤ 601024) (hs : s + 48 ≤ 7293033) (Nx : ∀ lv' h' c' s', LwS lv' i → LR h' → c' ≤ c + 8 → s' ≤ s + 48 → Vx (Ex S 24) S M_368 [] Q1 2316 lv' [] h' c' s') : Vx (Ex S 24) S M_368 [] Q1 1871 lv [] h c s := by
  have hC := Ex.mono S 24
  refine Vx.go hC te_368_1871 ?_
  refine ⟨_, hl.2.1, ⟨0, Or.inl rfl⟩, ?_⟩
  refine Vx.go hC te_368_1872 ?_
  refine ⟨_, hl.2.2.2.1, ⟨173, Or.inl rfl⟩, ?_⟩
  refine Vx.go hC te_368_1873 ?_
  refine Or.inr ⟨by decide, ?_⟩
  refine p_call_mk (av := [.ref 0, .ref 173]) (rest := []) mt_193 rfl (by decide) (show c + 1 ≤ 601024 by omega) (show s + 6 ≤ 7293033 by omega) (fun q => by cases q) ?_
  refine g_193 (n := 6) hL (fun r3 h1 hL2 => ?_)
  show Vx (Ex S 24) S M_368 [] Q1 1876 lv [.int r3] h1 (c + 1) (s + 6)
  refine Vx.go hC te_368_1876 ?_
  refine ⟨by decide, ?_⟩
  have hl4 := LwS.st (j := 5) (v := .int r3) (by omega) hl
  show Vx (Ex S 24) S M_368 [] Q1 1878 (px_s1 lv 5 (.int r3)) [] h1 (c + 1) (s + 6)
  refine Vx.go hC te_368_1878 ?_
  refine ⟨_, hl4.2.2.1, ⟨143, Or.inl rfl⟩, ?_⟩
  refine Vx.go hC te_368_1879 ?_
  obtain ⟨gs8, gs8g⟩ := hL2.obj (A := 143) rfl
  have hcall9 := ref_call (S := S) (n := 24) (μ := 351) (args := [.inr 143]) (h := h1) (fun v hv => by simp only [List.mem_cons, List.not_mem_nil, or_false] at hv; rw [hv]; trivial) hL2 (fun mem hr => f_351 hr (fun r m' a b => ⟨a, b⟩))
  simp only [List.map_cons, List.map_nil, wv, Int32.ofInt_toInt] at hcall9
  refine p_call_mk (av := [.ref 143]) (rest := []) mt_351 rfl (by decide) (show (c + 1) + 0 ≤ 601024 by omega) (show (s + 6) + 0 ≤ 7293033 by omega) (fun _ => ⟨143, gs8, rfl, gs8g⟩) ?_
  refine hC _ _ _ _ _ ?_ hcall9
  rintro _ h5 ⟨hL6, r7, rfl⟩
  show Vx (Ex S 24) S M_368 [] Q1 1882 (px_s1 lv 5 (.int r3)) [.int r7] h5 (c + 1) (s + 6)
  refine Vx.go hC te_368_1882 ?_
  refine ⟨by decide, ?_⟩
  have hl10 := LwS.st (j := 6) (v := .int r7) (by omega) hl4
  show Vx (Ex S 24) S M_368 [] Q1 1884 (px_s1 (px_s1 lv 5 (.int r3)) 6 (.int r7)) [] h5 (c + 1) (s + 6)
  refine Vx.go hC te_368_1884 ?_
  refine ⟨by decide, ?_⟩
  exact Nx _ _ _ _ hl10 hL6 (by omega) (by omega)
theorem lc_38 {S : Nat × (Nat → Int32)} {lv : LV} {h : PH} {c s : Nat} {i : Int32} (hS : S.1 ≤ 3072) (hl : LwS lv i) (hi : 0 ≤ i.toInt ∧ i.toInt + 5 < S.1) (hL : LR h) (hc : c + 8 ≤ 601024) (hs : s + 48 ≤ 7293033) (Nx : ∀ lv' h' c' s', LwS lv' i → LR h' → c' ≤ c + 8 → s' ≤ s + 48 → Vx (Ex S 24) S M_368 [] Q1 2316 lv' [] h' c' s') : Vx (Ex S 24) S M_368 [] Q1 1887 lv [] h c s := by
  have hC := Ex.mono S 24
  refine Vx.go hC te_368_1887 ?_
  refine ⟨_, hl.2.1, ⟨0, Or.inl rfl⟩, ?_⟩
  refine sc_load hC (k := 1) hl te_368_1888 te_368_1889 te_368_1891 te_368_1892 te_368_1893 (sc_in hS hi (by decide)) ?_
  refine Vx.go hC te_368_1894 ?_
  refine ⟨_, hl.2.2.2.1, ⟨173, Or.inl rfl⟩, ?_⟩
  refine Vx.go hC te_368_1895 ?_
  refine Or.inr ⟨by decide, ?_⟩
  refine p_call_mk (av := [.ref 0, .int (S.2 (i + Int32.ofInt 1).toNatClampNeg), .ref 173]) (rest := []) mt_195 rfl (by decide) (show c + 3 ≤ 601024 by omega) (show s + 18 ≤ 7293033 by omega) (fun q => by cases q) ?_
  refine g_195 (n := 6) hL (fun r3 h1 hL2 => ?_)
  show Vx (Ex S 24) S M_368 [] Q1 1898 lv [.int r3] h1 (c + 3) (s + 18)
  refine Vx.go hC te_368_1898 ?_
  refine ⟨by decide, ?_⟩
  have hl4 := LwS.st (j := 5) (v := .int r3) (by omega) hl
  show Vx (Ex S 24) S M_368 [] Q1 1900 (px_s1 lv 5 (.int r3)) [] h1 (c + 3) (s + 18)
  refine Vx.go hC te_368_1900 ?_
  refine ⟨_, hl4.2.2.1, ⟨143, Or.inl rfl⟩, ?_⟩
  refine sc_load hC (k := 1) hl4 te_368_1901 te_368_1902 te_368_1904 te_368_1905 te_368_1906 (sc_in hS hi (by decide)) ?_
  refine Vx.go hC te_368_1907 ?_
  obtain ⟨gs8, gs8g⟩ := hL2.obj (A := 143) rfl
  have hcall9 := ref_call (S := S) (n := 24) (μ := 352) (args := [.inr 143, .inl ((S.2 (i + Int32.ofInt 1).toNatClampNeg) : Int32).toInt]) (h := h1) (fun v hv => by simp only [List.mem_cons, List.not_mem_nil, or_false] at hv; rcases hv with rfl | rfl <;> first | trivial | exact wiI _) hL2 (fun mem hr => f_352 hr (fun r m' a b => ⟨a, b⟩))
  simp only [List.map_cons, List.map_nil, wv, Int32.ofInt_toInt] at hcall9
  refine p_call_mk (av := [.ref 143, .int (S.2 (i + Int32.ofInt 1).toNatClampNeg)]) (rest := []) mt_352 rfl (by decide) (show (c + 3) + 0 ≤ 601024 by omega) (show (s + 18) + 0 ≤ 7293033 by omega) (fun _ => ⟨143, gs8, rfl, gs8g⟩) ?_
  refine hC _ _ _ _ _ ?_ hcall9
  rintro _ h5 ⟨hL6, r7, rfl⟩
  show Vx (Ex S 24) S M_368 [] Q1 1910 (px_s1 lv 5 (.int r3)) [.int r7] h5 (c + 3) (s + 18)
  refine Vx.go hC te_368_1910 ?_
  refine ⟨by decide, ?_⟩
  have hl10 := LwS.st (j := 6) (v := .int r7) (by omega) hl4
  show Vx (Ex S 24) S M_368 [] Q1 1912 (px_s1 (px_s1 lv 5 (.int r3)) 6 (.int r7)) [] h5 (c + 3) (s + 18)
  refine Vx.go hC te_368_1912 ?_
  refine ⟨by decide, ?_⟩
  exact Nx _ _ _ _ hl10 hL6 (by omega) (by omega)
theorem lc_39 {S : Nat × (Nat → Int32)} {lv : LV} {h : PH} {c s : Nat} {i : Int32} (hS : S.1 ≤ 3072) (hl : LwS lv i) (hi : 0 ≤ i.toInt ∧ i.toInt + 5 < S.1) (hL : LR h) (hc : c + 8 ≤ 601024) (hs : s + 48 ≤ 7293033) (Nx : ∀ lv' h' c' s', LwS lv' i → LR h' → c' ≤ c + 8 → s' ≤ s + 48 → Vx (Ex S 24) S M_368 [] Q1 2316 lv' [] h' c' s') : Vx (Ex S 24) S M_368 [] Q1 1915 lv [] h c s := by
  have hC := Ex.mono S 24
  refine Vx.go hC te_368_1915 ?_
  refine ⟨_, hl.2.1, ⟨0, Or.inl rfl⟩, ?_⟩
  refine sc_load hC (k := 1) hl te_368_1916 te_368_1917 te_368_1919 te_368_1920 te_368_1921 (sc_in hS hi (by decide)) ?_
  refine Vx.go hC te_368_1922 ?_
  refine ⟨_, hl.2.2.2.1, ⟨173, Or.inl rfl⟩, ?_⟩
  refine Vx.go hC te_368_1923 ?_
  refine Or.inr ⟨by decide, ?_⟩
  refine p_call_mk (av := [.ref 0, .int (S.2 (i + Int32.ofInt 1).toNatClampNeg), .ref 173]) (rest := []) mt_197 rfl (by decide) (show c + 2 ≤ 601024 by omega) (show s + 12 ≤ 7293033 by omega) (fun q => by cases q) ?_
  refine g_197 (n := 6) hL (fun r3 h1 hL2 => ?_)
  show Vx (Ex S 24) S M_368 [] Q1 1926 lv [.int r3] h1 (c + 2) (s + 12)
  refine Vx.go hC te_368_1926 ?_
  refine ⟨by decide, ?_⟩
  have hl4 := LwS.st (j := 5) (v := .int r3) (by omega) hl
  show Vx (Ex S 24) S M_368 [] Q1 1928 (px_s1 lv 5 (.int r3)) [] h1 (c + 2) (s + 12)
  refine Vx.go hC te_368_1928 ?_
  refine ⟨_, hl4.2.2.1, ⟨143, Or.inl rfl⟩, ?_⟩
  refine sc_load hC (k := 1) hl4 te_368_1929 te_368_1930 te_368_1932 te_368_1933 te_368_1934 (sc_in hS hi (by decide)) ?_
  refine Vx.go hC te_368_1935 ?_
  obtain ⟨gs8, gs8g⟩ := hL2.obj (A := 143) rfl
  have hcall9 := ref_call (S := S) (n := 24) (μ := 355) (args := [.inr 143, .inl ((S.2 (i + Int32.ofInt 1).toNatClampNeg) : Int32).toInt]) (h := h1) (fun v hv => by simp only [List.mem_cons, List.not_mem_nil, or_false] at hv; rcases hv with rfl | rfl <;> first | trivial | exact wiI _) hL2 (fun mem hr => f_355 hr (fun r m' a b => ⟨a, b⟩))
  simp only [List.map_cons, List.map_nil, wv, Int32.ofInt_toInt] at hcall9
  refine p_call_mk (av := [.ref 143, .int (S.2 (i + Int32.ofInt 1).toNatClampNeg)]) (rest := []) mt_355 rfl (by decide) (show (c + 2) + 0 ≤ 601024 by omega) (show (s + 12) + 0 ≤ 7293033 by omega) (fun _ => ⟨143, gs8, rfl, gs8g⟩) ?_
  refine hC _ _ _ _ _ ?_ hcall9
  rintro _ h5 ⟨hL6, r7, rfl⟩
  show Vx (Ex S 24) S M_368 [] Q1 1938 (px_s1 lv 5 (.int r3)) [.int r7] h5 (c + 2) (s + 12)
  refine Vx.go hC te_368_1938 ?_
  refine ⟨by decide, ?_⟩
  have hl10 := LwS.st (j := 6) (v := .int r7) (by omega) hl4
  show Vx (Ex S 24) S M_368 [] Q1 1940 (px_s1 (px_s1 lv 5 (.int r3)) 6 (.int r7)) [] h5 (c + 2) (s + 12)
  refine Vx.go hC te_368_1940 ?_
  refine ⟨by decide, ?_⟩
  exact Nx _ _ _ _ hl10 hL6 (by omega) (by omega)
theorem lc_40 {S : Nat × (Nat → Int32)} {lv : LV} {h : PH} {c s : Nat} {i : Int32} (hS : S.1 ≤ 3072) (hl : LwS lv i) (hi : 0 ≤ i.toInt ∧ i.toInt + 5 < S.1) (hL : LR h) (hc : c + 8 ≤ 601024) (hs : s + 48 ≤ 7293033) (Nx : ∀ lv' h' c' s', LwS lv' i → LR h' → c' ≤ c + 8 → s' ≤ s + 48 → Vx (Ex S 24) S M_368 [] Q1 2316 lv' [] h' c' s') : Vx (Ex S 24) S M_368 [] Q1 1943 lv [] h c s := by
  have hC := Ex.mono S 24
  refine Vx.go hC te_368_1943 ?_
  refine ⟨_, hl.2.1, ⟨0, Or.inl rfl⟩, ?_⟩
  refine sc_load hC (k := 1) hl te_368_1944 te_368_1945 te_368_1947 te_368_1948 te_368_1949 (sc_in hS hi (by decide)) ?_
  refine sc_load hC (k := 2) hl te_368_1950 te_368_1951 te_368_1953 te_368_1954 te_368_1955 (sc_in hS hi (by decide)) ?_
  refine Vx.go hC te_368_1956 ?_
  refine ⟨_, hl.2.2.2.1, ⟨173, Or.inl rfl⟩, ?_⟩
  refine Vx.go hC te_368_1957 ?_
  refine Or.inr ⟨by decide, ?_⟩
  refine p_call_mk (av := [.ref 0, .int (S.2 (i + Int32.ofInt 1).toNatClampNeg), .int (S.2 (i + Int32.ofInt 2).toNatClampNeg), .ref 173]) (rest := []) mt_200 rfl (by decide) (show c + 4 ≤ 601024 by omega) (show s + 24 ≤ 7293033 by omega) (fun q => by cases q) ?_
  refine g_200 (n := 6) hL (fun r3 h1 hL2 => ?_)
  show Vx (Ex S 24) S M_368 [] Q1 1960 lv [.int r3] h1 (c + 4) (s + 24)
  refine Vx.go hC te_368_1960 ?_
  refine ⟨by decide, ?_⟩
  have hl4 := LwS.st (j := 5) (v := .int r3) (by omega) hl
  show Vx (Ex S 24) S M_368 [] Q1 1962 (px_s1 lv 5 (.int r3)) [] h1 (c + 4) (s + 24)
  refine Vx.go hC te_368_1962 ?_
  refine ⟨_, hl4.2.2.1, ⟨143, Or.inl rfl⟩, ?_⟩
  refine sc_load hC (k := 1) hl4 te_368_1963 te_368_1964 te_368_1966 te_368_1967 te_368_1968 (sc_in hS hi (by decide)) ?_
  refine sc_load hC (k := 2) hl4 te_368_1969 te_368_1970 te_368_1972 te_368_1973 te_368_1974 (sc_in hS hi (by decide)) ?_
  refine Vx.go hC te_368_1975 ?_
  obtain ⟨gs8, gs8g⟩ := hL2.obj (A := 143) rfl
  have hcall9 := ref_call (S := S) (n := 24) (μ := 356) (args := [.inr 143, .inl ((S.2 (i + Int32.ofInt 1).toNatClampNeg) : Int32).toInt, .inl ((S.2 (i + Int32.ofInt 2).toNatClampNeg) : Int32).toInt]) (h := h1) (fun v hv => by simp only [List.mem_cons, List.not_mem_nil, or_false] at hv; rcases hv with rfl | rfl | rfl <;> first | trivial | exact wiI _) hL2 (fun mem hr => f_356 hr (fun r m' a b => ⟨a, b⟩))
  simp only [List.map_cons, List.map_nil, wv, Int32.ofInt_toInt] at hcall9
  refine p_call_mk (av := [.ref 143, .int (S.2 (i + Int32.ofInt 1).toNatClampNeg), .int (S.2 (i + Int32.ofInt 2).toNatClampNeg)]) (rest := []) mt_356 rfl (by decide) (show (c + 4) + 0 ≤ 601024 by omega) (show (s + 24) + 0 ≤ 7293033 by omega) (fun _ => ⟨143, gs8, rfl, gs8g⟩) ?_
  refine hC _ _ _ _ _ ?_ hcall9
  rintro _ h5 ⟨hL6, r7, rfl⟩
  show Vx (Ex S 24) S M_368 [] Q1 1978 (px_s1 lv 5 (.int r3)) [.int r7] h5 (c + 4) (s + 24)
  refine Vx.go hC te_368_1978 ?_
  refine ⟨by decide, ?_⟩
  have hl10 := LwS.st (j := 6) (v := .int r7) (by omega) hl4
  show Vx (Ex S 24) S M_368 [] Q1 1980 (px_s1 (px_s1 lv 5 (.int r3)) 6 (.int r7)) [] h5 (c + 4) (s + 24)
  refine Vx.go hC te_368_1980 ?_
  refine ⟨by decide, ?_⟩
  exact Nx _ _ _ _ hl10 hL6 (by omega) (by omega)
theorem lc_41 {S : Nat × (Nat → Int32)} {lv : LV} {h : PH} {c s : Nat} {i : Int32} (hS : S.1 ≤ 3072) (hl : LwS lv i) (hi : 0 ≤ i.toInt ∧ i.toInt + 5 < S.1) (hL : LR h) (hc : c + 8 ≤ 601024) (hs : s + 48 ≤ 7293033) (Nx : ∀ lv' h' c' s', LwS lv' i → LR h' → c' ≤ c + 8 → s' ≤ s + 48 → Vx (Ex S 24) S M_368 [] Q1 2316 lv' [] h' c' s') : Vx (Ex S 24) S M_368 [] Q1 1983 lv [] h c s := by
  have hC := Ex.mono S 24
  refine Vx.go hC te_368_1983 ?_
  refine ⟨_, hl.2.1, ⟨0, Or.inl rfl⟩, ?_⟩
  refine sc_load hC (k := 1) hl te_368_1984 te_368_1985 te_368_1987 te_368_1988 te_368_1989 (sc_in hS hi (by decide)) ?_
  refine sc_load hC (k := 2) hl te_368_1990 te_368_1991 te_368_1993 te_368_1994 te_368_1995 (sc_in hS hi (by decide)) ?_
  refine sc_load hC (k := 3) hl te_368_1996 te_368_1997 te_368_1999 te_368_2000 te_368_2001 (sc_in hS hi (by decide)) ?_
  refine Vx.go hC te_368_2002 ?_
  refine ⟨by decide, fun q => ?_, fun q => ?_⟩
  · show Vx (Ex S 24) S M_368 [] Q1 2009 lv [.int (S.2 (i + Int32.ofInt 2).toNatClampNeg), .int (S.2 (i + Int32.ofInt 1).toNatClampNeg), .ref 0] h c s
    refine Vx.go hC te_368_2009 ?_
    refine Vx.go hC te_368_2010 ?_
    refine ⟨_, hl.2.2.2.1, ⟨173, Or.inl rfl⟩, ?_⟩
    refine Vx.go hC te_368_2011 ?_
    refine Or.inr ⟨by decide, ?_⟩
    refine p_call_mk (av := [.ref 0, .int (S.2 (i + Int32.ofInt 1).toNatClampNeg), .int (S.2 (i + Int32.ofInt 2).toNatClampNeg), .int (Int32.ofInt 0), .ref 173]) (rest := []) mt_202 rfl (by decide) (show c + 4 ≤ 601024 by omega) (show s + 24 ≤ 7293033 by omega) (fun q => by cases q) ?_
    refine g_202 (n := 6) hL (fun r3 h1 hL2 => ?_)
    show Vx (Ex S 24) S M_368 [] Q1 2014 lv [.int r3] h1 (c + 4) (s + 24)
    refine Vx.go hC te_368_2014 ?_
    refine ⟨by decide, ?_⟩
    have hl4 := LwS.st (j := 5) (v := .int r3) (by omega) hl
    show Vx (Ex S 24) S M_368 [] Q1 2016 (px_s1 lv 5 (.int r3)) [] h1 (c + 4) (s + 24)
    refine Vx.go hC te_368_2016 ?_
    refine ⟨_, hl4.2.2.1, ⟨143, Or.inl rfl⟩, ?_⟩
    refine sc_load hC (k := 1) hl4 te_368_2017 te_368_2018 te_368_2020 te_368_2021 te_368_2022 (sc_in hS hi (by decide)) ?_
    refine sc_load hC (k := 2) hl4 te_368_2023 te_368_2024 te_368_2026 te_368_2027 te_368_2028 (sc_in hS hi (by decide)) ?_
    refine sc_load hC (k := 3) hl4 te_368_2029 te_368_2030 te_368_2032 te_368_2033 te_368_2034 (sc_in hS hi (by decide)) ?_
    refine Vx.go hC te_368_2035 ?_
    refine ⟨by decide, fun q => ?_, fun q => ?_⟩
    · show Vx (Ex S 24) S M_368 [] Q1 2042 (px_s1 lv 5 (.int r3)) [.int (S.2 (i + Int32.ofInt 2).toNatClampNeg), .int (S.2 (i + Int32.ofInt 1).toNatClampNeg), .ref 143] h1 (c + 4) (s + 24)
      refine Vx.go hC te_368_2042 ?_
      refine Vx.go hC te_368_2043 ?_
      obtain ⟨gs8, gs8g⟩ := hL2.obj (A := 143) rfl
      have hcall9 := ref_call (S := S) (n := 24) (μ := 359) (args := [.inr 143, .inl ((S.2 (i + Int32.ofInt 1).toNatClampNeg) : Int32).toInt, .inl ((S.2 (i + Int32.ofInt 2).toNatClampNeg) : Int32).toInt, .inl ((Int32.ofInt 0) : Int32).toInt]) (h := h1) (fun v hv => by simp only [List.mem_cons, List.not_mem_nil, or_false] at hv; rcases hv with rfl | rfl | rfl | rfl <;> first | trivial | exact wiI _) hL2 (fun mem hr => f_359 hr (fun r m' a b => ⟨a, b⟩))
      simp only [List.map_cons, List.map_nil, wv, Int32.ofInt_toInt] at hcall9
      refine p_call_mk (av := [.ref 143, .int (S.2 (i + Int32.ofInt 1).toNatClampNeg), .int (S.2 (i + Int32.ofInt 2).toNatClampNeg), .int (Int32.ofInt 0)]) (rest := []) mt_359 rfl (by decide) (show (c + 4) + 0 ≤ 601024 by omega) (show (s + 24) + 0 ≤ 7293033 by omega) (fun _ => ⟨143, gs8, rfl, gs8g⟩) ?_
      refine hC _ _ _ _ _ ?_ hcall9
      rintro _ h5 ⟨hL6, r7, rfl⟩
      show Vx (Ex S 24) S M_368 [] Q1 2046 (px_s1 lv 5 (.int r3)) [.int r7] h5 (c + 4) (s + 24)
      refine Vx.go hC te_368_2046 ?_
      refine ⟨by decide, ?_⟩
      have hl10 := LwS.st (j := 6) (v := .int r7) (by omega) hl4
      show Vx (Ex S 24) S M_368 [] Q1 2048 (px_s1 (px_s1 lv 5 (.int r3)) 6 (.int r7)) [] h5 (c + 4) (s + 24)
      refine Vx.go hC te_368_2048 ?_
      refine ⟨by decide, ?_⟩
      exact Nx _ _ _ _ hl10 hL6 (by omega) (by omega)
    · show Vx (Ex S 24) S M_368 [] Q1 2038 (px_s1 lv 5 (.int r3)) [.int (S.2 (i + Int32.ofInt 2).toNatClampNeg), .int (S.2 (i + Int32.ofInt 1).toNatClampNeg), .ref 143] h1 (c + 4) (s + 24)
      refine Vx.go hC te_368_2038 ?_
      refine Vx.go hC te_368_2039 ?_
      refine ⟨by decide, ?_⟩
      show Vx (Ex S 24) S M_368 [] Q1 2043 (px_s1 lv 5 (.int r3)) [.int (Int32.ofInt 1), .int (S.2 (i + Int32.ofInt 2).toNatClampNeg), .int (S.2 (i + Int32.ofInt 1).toNatClampNeg), .ref 143] h1 (c + 4) (s + 24)
      refine Vx.go hC te_368_2043 ?_
      obtain ⟨gs14, gs14g⟩ := hL2.obj (A := 143) rfl
      have hcall15 := ref_call (S := S) (n := 24) (μ := 359) (args := [.inr 143, .inl ((S.2 (i + Int32.ofInt 1).toNatClampNeg) : Int32).toInt, .inl ((S.2 (i + Int32.ofInt 2).toNatClampNeg) : Int32).toInt, .inl ((Int32.ofInt 1) : Int32).toInt]) (h := h1) (fun v hv => by simp only [List.mem_cons, List.not_mem_nil, or_false] at hv; rcases hv with rfl | rfl | rfl | rfl <;> first | trivial | exact wiI _) hL2 (fun mem hr => f_359 hr (fun r m' a b => ⟨a, b⟩))
      simp only [List.map_cons, List.map_nil, wv, Int32.ofInt_toInt] at hcall15
      refine p_call_mk (av := [.ref 143, .int (S.2 (i + Int32.ofInt 1).toNatClampNeg), .int (S.2 (i + Int32.ofInt 2).toNatClampNeg), .int (Int32.ofInt 1)]) (rest := []) mt_359 rfl (by decide) (show (c + 4) + 0 ≤ 601024 by omega) (show (s + 24) + 0 ≤ 7293033 by omega) (fun _ => ⟨143, gs14, rfl, gs14g⟩) ?_
      refine hC _ _ _ _ _ ?_ hcall15
      rintro _ h11 ⟨hL12, r13, rfl⟩
      show Vx (Ex S 24) S M_368 [] Q1 2046 (px_s1 lv 5 (.int r3)) [.int r13] h11 (c + 4) (s + 24)
      refine Vx.go hC te_368_2046 ?_
      refine ⟨by decide, ?_⟩
      have hl16 := LwS.st (j := 6) (v := .int r13) (by omega) hl4
      show Vx (Ex S 24) S M_368 [] Q1 2048 (px_s1 (px_s1 lv 5 (.int r3)) 6 (.int r13)) [] h11 (c + 4) (s + 24)
      refine Vx.go hC te_368_2048 ?_
      refine ⟨by decide, ?_⟩
      exact Nx _ _ _ _ hl16 hL12 (by omega) (by omega)
  · show Vx (Ex S 24) S M_368 [] Q1 2005 lv [.int (S.2 (i + Int32.ofInt 2).toNatClampNeg), .int (S.2 (i + Int32.ofInt 1).toNatClampNeg), .ref 0] h c s
    refine Vx.go hC te_368_2005 ?_
    refine Vx.go hC te_368_2006 ?_
    refine ⟨by decide, ?_⟩
    show Vx (Ex S 24) S M_368 [] Q1 2010 lv [.int (Int32.ofInt 1), .int (S.2 (i + Int32.ofInt 2).toNatClampNeg), .int (S.2 (i + Int32.ofInt 1).toNatClampNeg), .ref 0] h c s
    refine Vx.go hC te_368_2010 ?_
    refine ⟨_, hl.2.2.2.1, ⟨173, Or.inl rfl⟩, ?_⟩
    refine Vx.go hC te_368_2011 ?_
    refine Or.inr ⟨by decide, ?_⟩
    refine p_call_mk (av := [.ref 0, .int (S.2 (i + Int32.ofInt 1).toNatClampNeg), .int (S.2 (i + Int32.ofInt 2).toNatClampNeg), .int (Int32.ofInt 1), .ref 173]) (rest := []) mt_202 rfl (by decide) (show c + 4 ≤ 601024 by omega) (show s + 24 ≤ 7293033 by omega) (fun q => by cases q) ?_
    refine g_202 (n := 6) hL (fun r19 h17 hL18 => ?_)
    show Vx (Ex S 24) S M_368 [] Q1 2014 lv [.int r19] h17 (c + 4) (s + 24)
    refine Vx.go hC te_368_2014 ?_
    refine ⟨by decide, ?_⟩
    have hl20 := LwS.st (j := 5) (v := .int r19) (by omega) hl
    show Vx (Ex S 24) S M_368 [] Q1 2016 (px_s1 lv 5 (.int r19)) [] h17 (c + 4) (s + 24)
    refine Vx.go hC te_368_2016 ?_
    refine ⟨_, hl20.2.2.1, ⟨143, Or.inl rfl⟩, ?_⟩
    refine sc_load hC (k := 1) hl20 te_368_2017 te_368_2018 te_368_2020 te_368_2021 te_368_2022 (sc_in hS hi (by decide)) ?_
    refine sc_load hC (k := 2) hl20 te_368_2023 te_368_2024 te_368_2026 te_368_2027 te_368_2028 (sc_in hS hi (by decide)) ?_
    refine sc_load hC (k := 3) hl20 te_368_2029 te_368_2030 te_368_2032 te_368_2033 te_368_2034 (sc_in hS hi (by decide)) ?_
    refine Vx.go hC te_368_2035 ?_
    refine ⟨by decide, fun q => ?_, fun q => ?_⟩
    · show Vx (Ex S 24) S M_368 [] Q1 2042 (px_s1 lv 5 (.int r19)) [.int (S.2 (i + Int32.ofInt 2).toNatClampNeg), .int (S.2 (i + Int32.ofInt 1).toNatClampNeg), .ref 143] h17 (c + 4) (s + 24)
      refine Vx.go hC te_368_2042 ?_
      refine Vx.go hC te_368_2043 ?_
      obtain ⟨gs24, gs24g⟩ := hL18.obj (A := 143) rfl
      have hcall25 := ref_call (S := S) (n := 24) (μ := 359) (args := [.inr 143, .inl ((S.2 (i + Int32.ofInt 1).toNatClampNeg) : Int32).toInt, .inl ((S.2 (i + Int32.ofInt 2).toNatClampNeg) : Int32).toInt, .inl ((Int32.ofInt 0) : Int32).toInt]) (h := h17) (fun v hv => by simp only [List.mem_cons, List.not_mem_nil, or_false] at hv; rcases hv with rfl | rfl | rfl | rfl <;> first | trivial | exact wiI _) hL18 (fun mem hr => f_359 hr (fun r m' a b => ⟨a, b⟩))
      simp only [List.map_cons, List.map_nil, wv, Int32.ofInt_toInt] at hcall25
      refine p_call_mk (av := [.ref 143, .int (S.2 (i + Int32.ofInt 1).toNatClampNeg), .int (S.2 (i + Int32.ofInt 2).toNatClampNeg), .int (Int32.ofInt 0)]) (rest := []) mt_359 rfl (by decide) (show (c + 4) + 0 ≤ 601024 by omega) (show (s + 24) + 0 ≤ 7293033 by omega) (fun _ => ⟨143, gs24, rfl, gs24g⟩) ?_
      refine hC _ _ _ _ _ ?_ hcall25
      rintro _ h21 ⟨hL22, r23, rfl⟩
      show Vx (Ex S 24) S M_368 [] Q1 2046 (px_s1 lv 5 (.int r19)) [.int r23] h21 (c + 4) (s + 24)
      refine Vx.go hC te_368_2046 ?_
      refine ⟨by decide, ?_⟩
      have hl26 := LwS.st (j := 6) (v := .int r23) (by omega) hl20
      show Vx (Ex S 24) S M_368 [] Q1 2048 (px_s1 (px_s1 lv 5 (.int r19)) 6 (.int r23)) [] h21 (c + 4) (s + 24)
      refine Vx.go hC te_368_2048 ?_
      refine ⟨by decide, ?_⟩
      exact Nx _ _ _ _ hl26 hL22 (by omega) (by omega)
    · show Vx (Ex S 24) S M_368 [] Q1 2038 (px_s1 lv 5 (.int r19)) [.int (S.2 (i + Int32.ofInt 2).toNatClampNeg), .int (S.2 (i + Int32.ofInt 1).toNatClampNeg), .ref 143] h17 (c + 4) (s + 24)
      refine Vx.go hC te_368_2038 ?_
      refine Vx.go hC te_368_2039 ?_
      refine ⟨by decide, ?_⟩
      show Vx (Ex S 24) S M_368 [] Q1 2043 (px_s1 lv 5 (.int r19)) [.int (Int32.ofInt 1), .int (S.2 (i + Int32.ofInt 2).toNatClampNeg), .int (S.2 (i + Int32.ofInt 1).toNatClampNeg), .ref 143] h17 (c + 4) (s + 24)
      refine Vx.go hC te_368_2043 ?_
      obtain ⟨gs30, gs30g⟩ := hL18.obj (A := 143) rfl
      have hcall31 := ref_call (S := S) (n := 24) (μ := 359) (args := [.inr 143, .inl ((S.2 (i + Int32.ofInt 1).toNatClampNeg) : Int32).toInt, .inl ((S.2 (i + Int32.ofInt 2).toNatClampNeg) : Int32).toInt, .inl ((Int32.ofInt 1) : Int32).toInt]) (h := h17) (fun v hv => by simp only [List.mem_cons, List.not_mem_nil, or_false] at hv; rcases hv with rfl | rfl | rfl | rfl <;> first | trivial | exact wiI _) hL18 (fun mem hr => f_359 hr (fun r m' a b => ⟨a, b⟩))
      simp only [List.map_cons, List.map_nil, wv, Int32.ofInt_toInt] at hcall31
      refine p_call_mk (av := [.ref 143, .int (S.2 (i + Int32.ofInt 1).toNatClampNeg), .int (S.2 (i + Int32.ofInt 2).toNatClampNeg), .int (Int32.ofInt 1)]) (rest := []) mt_359 rfl (by decide) (show (c + 4) + 0 ≤ 601024 by omega) (show (s + 24) + 0 ≤ 7293033 by omega) (fun _ => ⟨143, gs30, rfl, gs30g⟩) ?_
      refine hC _ _ _ _ _ ?_ hcall31
      rintro _ h27 ⟨hL28, r29, rfl⟩
      show Vx (Ex S 24) S M_368 [] Q1 2046 (px_s1 lv 5 (.int r19)) [.int r29] h27 (c + 4) (s + 24)
      refine Vx.go hC te_368_2046 ?_
      refine ⟨by decide, ?_⟩
      have hl32 := LwS.st (j := 6) (v := .int r29) (by omega) hl20
      show Vx (Ex S 24) S M_368 [] Q1 2048 (px_s1 (px_s1 lv 5 (.int r19)) 6 (.int r29)) [] h27 (c + 4) (s + 24)
      refine Vx.go hC te_368_2048 ?_
      refine ⟨by decide, ?_⟩
      exact Nx _ _ _ _ hl32 hL28 (by omega) (by omega)
theorem lc_42 {S : Nat × (Nat → Int32)} {lv : LV} {h : PH} {c s : Nat} {i : Int32} (hS : S.1 ≤ 3072) (hl : LwS lv i) (hi : 0 ≤ i.toInt ∧ i.toInt + 5 < S.1) (hL : LR h) (hc : c + 8 ≤ 601024) (hs : s + 48 ≤ 7293033) (Nx : ∀ lv' h' c' s', LwS lv' i → LR h' → c' ≤ c + 8 → s' ≤ s + 48 → Vx (Ex S 24) S M_368 [] Q1 2316 lv' [] h' c' s') : Vx (Ex S 24) S M_368 [] Q1 2051 lv [] h c s := by
  have hC := Ex.mono S 24
  refine Vx.go hC te_368_2051 ?_
  refine ⟨_, hl.2.1, ⟨0, Or.inl rfl⟩, ?_⟩
  refine sc_load hC (k := 1) hl te_368_2052 te_368_2053 te_368_2055 te_368_2056 te_368_2057 (sc_in hS hi (by decide)) ?_
  refine sc_load hC (k := 2) hl te_368_2058 te_368_2059 te_368_2061 te_368_2062 te_368_2063 (sc_in hS hi (by decide)) ?_
  refine sc_load hC (k := 3) hl te_368_2064 te_368_2065 te_368_2067 te_368_2068 te_368_2069 (sc_in hS hi (by decide)) ?_
  refine Vx.go hC te_368_2070 ?_
  refine ⟨_, hl.2.2.2.1, ⟨173, Or.inl rfl⟩, ?_⟩
  refine Vx.go hC te_368_2071 ?_
  refine Or.inr ⟨by decide, ?_⟩
  refine p_call_mk (av := [.ref 0, .int (S.2 (i + Int32.ofInt 1).toNatClampNeg), .int (S.2 (i + Int32.ofInt 2).toNatClampNeg), .int (S.2 (i + Int32.ofInt 3).toNatClampNeg), .ref 173]) (rest := []) mt_206 rfl (by decide) (show c + 6 ≤ 601024 by omega) (show s + 36 ≤ 7293033 by omega) (fun q => by cases q) ?_
  refine g_206 (n := 6) hL (fun r3 h1 hL2 => ?_)
  show Vx (Ex S 24) S M_368 [] Q1 2074 lv [.int r3] h1 (c + 6) (s + 36)
  refine Vx.go hC te_368_2074 ?_
  refine ⟨by decide, ?_⟩
  have hl4 := LwS.st (j := 5) (v := .int r3) (by omega) hl
  show Vx (Ex S 24) S M_368 [] Q1 2076 (px_s1 lv 5 (.int r3)) [] h1 (c + 6) (s + 36)
  refine Vx.go hC te_368_2076 ?_
  refine ⟨_, hl4.2.2.1, ⟨143, Or.inl rfl⟩, ?_⟩
  refine sc_load hC (k := 1) hl4 te_368_2077 te_368_2078 te_368_2080 te_368_2081 te_368_2082 (sc_in hS hi (by decide)) ?_
  refine sc_load hC (k := 2) hl4 te_368_2083 te_368_2084 te_368_2086 te_368_2087 te_368_2088 (sc_in hS hi (by decide)) ?_
  refine sc_load hC (k := 3) hl4 te_368_2089 te_368_2090 te_368_2092 te_368_2093 te_368_2094 (sc_in hS hi (by decide)) ?_
  refine Vx.go hC te_368_2095 ?_
  obtain ⟨gs8, gs8g⟩ := hL2.obj (A := 143) rfl
  have hcall9 := ref_call (S := S) (n := 24) (μ := 361) (args := [.inr 143, .inl ((S.2 (i + Int32.ofInt 1).toNatClampNeg) : Int32).toInt, .inl ((S.2 (i + Int32.ofInt 2).toNatClampNeg) : Int32).toInt, .inl ((S.2 (i + Int32.ofInt 3).toNatClampNeg) : Int32).toInt]) (h := h1) (fun v hv => by simp only [List.mem_cons, List.not_mem_nil, or_false] at hv; rcases hv with rfl | rfl | rfl | rfl <;> first | trivial | exact wiI _) hL2 (fun mem hr => f_361 hr (fun r m' a b => ⟨a, b⟩))
  simp only [List.map_cons, List.map_nil, wv, Int32.ofInt_toInt] at hcall9
  refine p_call_mk (av := [.ref 143, .int (S.2 (i + Int32.ofInt 1).toNatClampNeg), .int (S.2 (i + Int32.ofInt 2).toNatClampNeg), .int (S.2 (i + Int32.ofInt 3).toNatClampNeg)]) (rest := []) mt_361 rfl (by decide) (show (c + 6) + 0 ≤ 601024 by omega) (show (s + 36) + 0 ≤ 7293033 by omega) (fun _ => ⟨143, gs8, rfl, gs8g⟩) ?_
  refine hC _ _ _ _ _ ?_ hcall9
  rintro _ h5 ⟨hL6, r7, rfl⟩
  show Vx (Ex S 24) S M_368 [] Q1 2098 (px_s1 lv 5 (.int r3)) [.int r7] h5 (c + 6) (s + 36)
  refine Vx.go hC te_368_2098 ?_
  refine ⟨by decide, ?_⟩
  have hl10 := LwS.st (j := 6) (v := .int r7) (by omega) hl4
  show Vx (Ex S 24) S M_368 [] Q1 2100 (px_s1 (px_s1 lv 5 (.int r3)) 6 (.int r7)) [] h5 (c + 6) (s + 36)
  refine Vx.go hC te_368_2100 ?_
  refine ⟨by decide, ?_⟩
  exact Nx _ _ _ _ hl10 hL6 (by omega) (by omega)
theorem lc_43 {S : Nat × (Nat → Int32)} {lv : LV} {h : PH} {c s : Nat} {i : Int32} (hS : S.1 ≤ 3072) (hl : LwS lv i) (hi : 0 ≤ i.toInt ∧ i.toInt + 5 < S.1) (hL : LR h) (hc : c + 8 ≤ 601024) (hs : s + 48 ≤ 7293033) (Nx : ∀ lv' h' c' s', LwS lv' i → LR h' → c' ≤ c + 8 → s' ≤ s + 48 → Vx (Ex S 24) S M_368 [] Q1 2316 lv' [] h' c' s') : Vx (Ex S 24) S M_368 [] Q1 2103 lv [] h c s := by
  have hC := Ex.mono S 24
  refine Vx.go hC te_368_2103 ?_
  refine ⟨_, hl.2.1, ⟨0, Or.inl rfl⟩, ?_⟩
  refine sc_load hC (k := 1) hl te_368_2104 te_368_2105 te_368_2107 te_368_2108 te_368_2109 (sc_in hS hi (by decide)) ?_
  refine sc_load hC (k := 2) hl te_368_2110 te_368_2111 te_368_2113 te_368_2114 te_368_2115 (sc_in hS hi (by decide)) ?_
  refine Vx.go hC te_368_2116 ?_
  refine ⟨_, hl.2.2.2.1, ⟨173, Or.inl rfl⟩, ?_⟩
  refine Vx.go hC te_368_2117 ?_
  refine Or.inr ⟨by decide, ?_⟩
  refine p_call_mk (av := [.ref 0, .int (S.2 (i + Int32.ofInt 1).toNatClampNeg), .int (S.2 (i + Int32.ofInt 2).toNatClampNeg), .ref 173]) (rest := []) mt_209 rfl (by decide) (show c + 5 ≤ 601024 by omega) (show s + 30 ≤ 7293033 by omega) (fun q => by cases q) ?_
  refine g_209 (n := 6) hL (fun r3 h1 hL2 => ?_)
  show Vx (Ex S 24) S M_368 [] Q1 2120 lv [.int r3] h1 (c + 5) (s + 30)
  refine Vx.go hC te_368_2120 ?_
  refine ⟨by decide, ?_⟩
  have hl4 := LwS.st (j := 5) (v := .int r3) (by omega) hl
  show Vx (Ex S 24) S M_368 [] Q1 2122 (px_s1 lv 5 (.int r3)) [] h1 (c + 5) (s + 30)
  refine Vx.go hC te_368_2122 ?_
  refine ⟨_, hl4.2.2.1, ⟨143, Or.inl rfl⟩, ?_⟩
  refine sc_load hC (k := 1) hl4 te_368_2123 te_368_2124 te_368_2126 te_368_2127 te_368_2128 (sc_in hS hi (by decide)) ?_
  refine sc_load hC (k := 2) hl4 te_368_2129 te_368_2130 te_368_2132 te_368_2133 te_368_2134 (sc_in hS hi (by decide)) ?_
  refine Vx.go hC te_368_2135 ?_
  obtain ⟨gs8, gs8g⟩ := hL2.obj (A := 143) rfl
  have hcall9 := ref_call (S := S) (n := 24) (μ := 362) (args := [.inr 143, .inl ((S.2 (i + Int32.ofInt 1).toNatClampNeg) : Int32).toInt, .inl ((S.2 (i + Int32.ofInt 2).toNatClampNeg) : Int32).toInt]) (h := h1) (fun v hv => by simp only [List.mem_cons, List.not_mem_nil, or_false] at hv; rcases hv with rfl | rfl | rfl <;> first | trivial | exact wiI _) hL2 (fun mem hr => f_362 hr (fun r m' a b => ⟨a, b⟩))
  simp only [List.map_cons, List.map_nil, wv, Int32.ofInt_toInt] at hcall9
  refine p_call_mk (av := [.ref 143, .int (S.2 (i + Int32.ofInt 1).toNatClampNeg), .int (S.2 (i + Int32.ofInt 2).toNatClampNeg)]) (rest := []) mt_362 rfl (by decide) (show (c + 5) + 0 ≤ 601024 by omega) (show (s + 30) + 0 ≤ 7293033 by omega) (fun _ => ⟨143, gs8, rfl, gs8g⟩) ?_
  refine hC _ _ _ _ _ ?_ hcall9
  rintro _ h5 ⟨hL6, r7, rfl⟩
  show Vx (Ex S 24) S M_368 [] Q1 2138 (px_s1 lv 5 (.int r3)) [.int r7] h5 (c + 5) (s + 30)
  refine Vx.go hC te_368_2138 ?_
  refine ⟨by decide, ?_⟩
  have hl10 := LwS.st (j := 6) (v := .int r7) (by omega) hl4
  show Vx (Ex S 24) S M_368 [] Q1 2140 (px_s1 (px_s1 lv 5 (.int r3)) 6 (.int r7)) [] h5 (c + 5) (s + 30)
  refine Vx.go hC te_368_2140 ?_
  refine ⟨by decide, ?_⟩
  exact Nx _ _ _ _ hl10 hL6 (by omega) (by omega)
theorem lc_44 {S : Nat × (Nat → Int32)} {lv : LV} {h : PH} {c s : Nat} {i : Int32} (hS : S.1 ≤ 3072) (hl : LwS lv i) (hi : 0 ≤ i.toInt ∧ i.toInt + 5 < S.1) (hL : LR h) (hc : c + 8 ≤ 601024) (hs : s + 48 ≤ 7293033) (Nx : ∀ lv' h' c' s', LwS lv' i → LR h' → c' ≤ c + 8 → s' ≤ s + 48 → Vx (Ex S 24) S M_368 [] Q1 2316 lv' [] h' c' s') : Vx (Ex S 24) S M_368 [] Q1 2143 lv [] h c s := by
  have hC := Ex.mono S 24
  refine Vx.go hC te_368_2143 ?_
  refine ⟨_, hl.2.1, ⟨0, Or.inl rfl⟩, ?_⟩
  refine sc_load hC (k := 1) hl te_368_2144 te_368_2145 te_368_2147 te_368_2148 te_368_2149 (sc_in hS hi (by decide)) ?_
  refine sc_load hC (k := 2) hl te_368_2150 te_368_2151 te_368_2153 te_368_2154 te_368_2155 (sc_in hS hi (by decide)) ?_
  refine sc_load hC (k := 3) hl te_368_2156 te_368_2157 te_368_2159 te_368_2160 te_368_2161 (sc_in hS hi (by decide)) ?_
  refine sc_load hC (k := 4) hl te_368_2162 te_368_2163 te_368_2165 te_368_2166 te_368_2167 (sc_in hS hi (by decide)) ?_
  refine Vx.go hC te_368_2168 ?_
  refine ⟨_, hl.2.2.2.1, ⟨173, Or.inl rfl⟩, ?_⟩
  refine Vx.go hC te_368_2169 ?_
  refine Or.inr ⟨by decide, ?_⟩
  refine p_call_mk (av := [.ref 0, .int (S.2 (i + Int32.ofInt 1).toNatClampNeg), .int (S.2 (i + Int32.ofInt 2).toNatClampNeg), .int (S.2 (i + Int32.ofInt 3).toNatClampNeg), .int (S.2 (i + Int32.ofInt 4).toNatClampNeg), .ref 173]) (rest := []) mt_213 rfl (by decide) (show c + 6 ≤ 601024 by omega) (show s + 36 ≤ 7293033 by omega) (fun q => by cases q) ?_
  refine g_213 (n := 6) hL (fun r3 h1 hL2 => ?_)
  show Vx (Ex S 24) S M_368 [] Q1 2172 lv [.int r3] h1 (c + 6) (s + 36)
  refine Vx.go hC te_368_2172 ?_
  refine ⟨by decide, ?_⟩
  have hl4 := LwS.st (j := 5) (v := .int r3) (by omega) hl
  show Vx (Ex S 24) S M_368 [] Q1 2174 (px_s1 lv 5 (.int r3)) [] h1 (c + 6) (s + 36)
  refine Vx.go hC te_368_2174 ?_
  refine ⟨_, hl4.2.2.1, ⟨143, Or.inl rfl⟩, ?_⟩
  refine sc_load hC (k := 1) hl4 te_368_2175 te_368_2176 te_368_2178 te_368_2179 te_368_2180 (sc_in hS hi (by decide)) ?_
  refine sc_load hC (k := 2) hl4 te_368_2181 te_368_2182 te_368_2184 te_368_2185 te_368_2186 (sc_in hS hi (by decide)) ?_
  refine sc_load hC (k := 3) hl4 te_368_2187 te_368_2188 te_368_2190 te_368_2191 te_368_2192 (sc_in hS hi (by decide)) ?_
  refine sc_load hC (k := 4) hl4 te_368_2193 te_368_2194 te_368_2196 te_368_2197 te_368_2198 (sc_in hS hi (by decide)) ?_
  refine Vx.go hC te_368_2199 ?_
  obtain ⟨gs8, gs8g⟩ := hL2.obj (A := 143) rfl
  have hcall9 := ref_call (S := S) (n := 24) (μ := 364) (args := [.inr 143, .inl ((S.2 (i + Int32.ofInt 1).toNatClampNeg) : Int32).toInt, .inl ((S.2 (i + Int32.ofInt 2).toNatClampNeg) : Int32).toInt, .inl ((S.2 (i + Int32.ofInt 3).toNatClampNeg) : Int32).toInt, .inl ((S.2 (i + Int32.ofInt 4).toNatClampNeg) : Int32).toInt]) (h := h1) (fun v hv => by simp only [List.mem_cons, List.not_mem_nil, or_false] at hv; rcases hv with rfl | rfl | rfl | rfl | rfl <;> first | trivial | exact wiI _) hL2 (fun mem hr => f_364 hr (fun r m' a b => ⟨a, b⟩))
  simp only [List.map_cons, List.map_nil, wv, Int32.ofInt_toInt] at hcall9
  refine p_call_mk (av := [.ref 143, .int (S.2 (i + Int32.ofInt 1).toNatClampNeg), .int (S.2 (i + Int32.ofInt 2).toNatClampNeg), .int (S.2 (i + Int32.ofInt 3).toNatClampNeg), .int (S.2 (i + Int32.ofInt 4).toNatClampNeg)]) (rest := []) mt_364 rfl (by decide) (show (c + 6) + 0 ≤ 601024 by omega) (show (s + 36) + 0 ≤ 7293033 by omega) (fun _ => ⟨143, gs8, rfl, gs8g⟩) ?_
  refine hC _ _ _ _ _ ?_ hcall9
  rintro _ h5 ⟨hL6, r7, rfl⟩
  show Vx (Ex S 24) S M_368 [] Q1 2202 (px_s1 lv 5 (.int r3)) [.int r7] h5 (c + 6) (s + 36)
  refine Vx.go hC te_368_2202 ?_
  refine ⟨by decide, ?_⟩
  have hl10 := LwS.st (j := 6) (v := .int r7) (by omega) hl4
  show Vx (Ex S 24) S M_368 [] Q1 2204 (px_s1 (px_s1 lv 5 (.int r3)) 6 (.int r7)) [] h5 (c + 6) (s + 36)
  refine Vx.go hC te_368_2204 ?_
  refine ⟨by decide, ?_⟩
  exact Nx _ _ _ _ hl10 hL6 (by omega) (by omega)
theorem lc_45 {S : Nat × (Nat → Int32)} {lv : LV} {h : PH} {c s : Nat} {i : Int32} (hS : S.1 ≤ 3072) (hl : LwS lv i) (hi : 0 ≤ i.toInt ∧ i.toInt + 5 < S.1) (hL : LR h) (hc : c + 8 ≤ 601024) (hs : s + 48 ≤ 7293033) (Nx : ∀ lv' h' c' s', LwS lv' i → LR h' → c' ≤ c + 8 → s' ≤ s + 48 → Vx (Ex S 24) S M_368 [] Q1 2316 lv' [] h' c' s') : Vx (Ex S 24) S M_368 [] Q1 2207 lv [] h c s := by
  have hC := Ex.mono S 24
  refine Vx.go hC te_368_2207 ?_
  refine ⟨_, hl.2.1, ⟨0, Or.inl rfl⟩, ?_⟩
  refine sc_load hC (k := 1) hl te_368_2208 te_368_2209 te_368_2211 te_368_2212 te_368_2213 (sc_in hS hi (by decide)) ?_
  refine Vx.go hC te_368_2214 ?_
  refine ⟨_, hl.2.2.2.1, ⟨173, Or.inl rfl⟩, ?_⟩
  refine Vx.go hC te_368_2215 ?_
  refine Or.inr ⟨by decide, ?_⟩
  refine p_call_mk (av := [.ref 0, .int (S.2 (i + Int32.ofInt 1).toNatClampNeg), .ref 173]) (rest := []) mt_218 rfl (by decide) (show c + 3 ≤ 601024 by omega) (show s + 18 ≤ 7293033 by omega) (fun q => by cases q) ?_
  refine g_218 (n := 6) hL (fun r3 h1 hL2 => ?_)
  show Vx (Ex S 24) S M_368 [] Q1 2218 lv [.int r3] h1 (c + 3) (s + 18)
  refine Vx.go hC te_368_2218 ?_
  refine ⟨by decide, ?_⟩
  have hl4 := LwS.st (j := 5) (v := .int r3) (by omega) hl
  show Vx (Ex S 24) S M_368 [] Q1 2220 (px_s1 lv 5 (.int r3)) [] h1 (c + 3) (s + 18)
  refine Vx.go hC te_368_2220 ?_
  refine ⟨_, hl4.2.2.1, ⟨143, Or.inl rfl⟩, ?_⟩
  refine sc_load hC (k := 1) hl4 te_368_2221 te_368_2222 te_368_2224 te_368_2225 te_368_2226 (sc_in hS hi (by decide)) ?_
  refine Vx.go hC te_368_2227 ?_
  obtain ⟨gs8, gs8g⟩ := hL2.obj (A := 143) rfl
  have hcall9 := ref_call (S := S) (n := 24) (μ := 336) (args := [.inr 143, .inl ((S.2 (i + Int32.ofInt 1).toNatClampNeg) : Int32).toInt]) (h := h1) (fun v hv => by simp only [List.mem_cons, List.not_mem_nil, or_false] at hv; rcases hv with rfl | rfl <;> first | trivial | exact wiI _) hL2 (fun mem hr => f_336 hr (fun r m' a b => ⟨a, b⟩))
  simp only [List.map_cons, List.map_nil, wv, Int32.ofInt_toInt] at hcall9
  refine p_call_mk (av := [.ref 143, .int (S.2 (i + Int32.ofInt 1).toNatClampNeg)]) (rest := []) mt_336 rfl (by decide) (show (c + 3) + 0 ≤ 601024 by omega) (show (s + 18) + 0 ≤ 7293033 by omega) (fun _ => ⟨143, gs8, rfl, gs8g⟩) ?_
  refine hC _ _ _ _ _ ?_ hcall9
  rintro _ h5 ⟨hL6, r7, rfl⟩
  show Vx (Ex S 24) S M_368 [] Q1 2230 (px_s1 lv 5 (.int r3)) [.int r7] h5 (c + 3) (s + 18)
  refine Vx.go hC te_368_2230 ?_
  refine ⟨by decide, ?_⟩
  have hl10 := LwS.st (j := 6) (v := .int r7) (by omega) hl4
  show Vx (Ex S 24) S M_368 [] Q1 2232 (px_s1 (px_s1 lv 5 (.int r3)) 6 (.int r7)) [] h5 (c + 3) (s + 18)
  refine Vx.go hC te_368_2232 ?_
  refine ⟨by decide, ?_⟩
  exact Nx _ _ _ _ hl10 hL6 (by omega) (by omega)
theorem lc_46 {S : Nat × (Nat → Int32)} {lv : LV} {h : PH} {c s : Nat} {i : Int32} (hS : S.1 ≤ 3072) (hl : LwS lv i) (hi : 0 ≤ i.toInt ∧ i.toInt + 5 < S.1) (hL : LR h) (hc : c + 8 ≤ 601024) (hs : s + 48 ≤ 7293033) (Nx : ∀ lv' h' c' s', LwS lv' i → LR h' → c' ≤ c + 8 → s' ≤ s + 48 → Vx (Ex S 24) S M_368 [] Q1 2316 lv' [] h' c' s') : Vx (Ex S 24) S M_368 [] Q1 2235 lv [] h c s := by
  have hC := Ex.mono S 24
  refine Vx.go hC te_368_2235 ?_
  refine ⟨_, hl.2.1, ⟨0, Or.inl rfl⟩, ?_⟩
  refine sc_load hC (k := 1) hl te_368_2236 te_368_2237 te_368_2239 te_368_2240 te_368_2241 (sc_in hS hi (by decide)) ?_
  refine Vx.go hC te_368_2242 ?_
  refine ⟨_, hl.2.2.2.1, ⟨173, Or.inl rfl⟩, ?_⟩
  refine Vx.go hC te_368_2243 ?_
  refine Or.inr ⟨by decide, ?_⟩
  refine p_call_mk (av := [.ref 0, .int (S.2 (i + Int32.ofInt 1).toNatClampNeg), .ref 173]) (rest := []) mt_220 rfl (by decide) (show c + 2 ≤ 601024 by omega) (show s + 12 ≤ 7293033 by omega) (fun q => by cases q) ?_
  refine g_220 (n := 6) hL (fun r3 h1 hL2 => ?_)
  show Vx (Ex S 24) S M_368 [] Q1 2246 lv [.int r3] h1 (c + 2) (s + 12)
  refine Vx.go hC te_368_2246 ?_
  refine ⟨by decide, ?_⟩
  have hl4 := LwS.st (j := 5) (v := .int r3) (by omega) hl
  show Vx (Ex S 24) S M_368 [] Q1 2248 (px_s1 lv 5 (.int r3)) [] h1 (c + 2) (s + 12)
  refine Vx.go hC te_368_2248 ?_
  refine ⟨_, hl4.2.2.1, ⟨143, Or.inl rfl⟩, ?_⟩
  refine sc_load hC (k := 1) hl4 te_368_2249 te_368_2250 te_368_2252 te_368_2253 te_368_2254 (sc_in hS hi (by decide)) ?_
  refine Vx.go hC te_368_2255 ?_
  obtain ⟨gs8, gs8g⟩ := hL2.obj (A := 143) rfl
  have hcall9 := ref_call (S := S) (n := 24) (μ := 357) (args := [.inr 143, .inl ((S.2 (i + Int32.ofInt 1).toNatClampNeg) : Int32).toInt]) (h := h1) (fun v hv => by simp only [List.mem_cons, List.not_mem_nil, or_false] at hv; rcases hv with rfl | rfl <;> first | trivial | exact wiI _) hL2 (fun mem hr => f_357 hr (fun r m' a b => ⟨a, b⟩))
  simp only [List.map_cons, List.map_nil, wv, Int32.ofInt_toInt] at hcall9
  refine p_call_mk (av := [.ref 143, .int (S.2 (i + Int32.ofInt 1).toNatClampNeg)]) (rest := []) mt_357 rfl (by decide) (show (c + 2) + 0 ≤ 601024 by omega) (show (s + 12) + 0 ≤ 7293033 by omega) (fun _ => ⟨143, gs8, rfl, gs8g⟩) ?_
  refine hC _ _ _ _ _ ?_ hcall9
  rintro _ h5 ⟨hL6, r7, rfl⟩
  show Vx (Ex S 24) S M_368 [] Q1 2258 (px_s1 lv 5 (.int r3)) [.int r7] h5 (c + 2) (s + 12)
  refine Vx.go hC te_368_2258 ?_
  refine ⟨by decide, ?_⟩
  have hl10 := LwS.st (j := 6) (v := .int r7) (by omega) hl4
  show Vx (Ex S 24) S M_368 [] Q1 2260 (px_s1 (px_s1 lv 5 (.int r3)) 6 (.int r7)) [] h5 (c + 2) (s + 12)
  refine Vx.go hC te_368_2260 ?_
  refine ⟨by decide, ?_⟩
  exact Nx _ _ _ _ hl10 hL6 (by omega) (by omega)
end
section
/-! laid by wip/hand/lw.py: cases of the law -/
theorem te_368_2263 : (pT M_368).find? (fun e => e.1 == 2263) = some (2263, .aload_n 1, 0, 0) := (sk_119 2263 rfl).trans rfl
theorem te_368_2264 : (pT M_368).find? (fun e => e.1 == 2264) = some (2264, .aload_n 0, 0, 0) := (sk_119 2264 rfl).trans rfl
theorem te_368_2265 : (pT M_368).find? (fun e => e.1 == 2265) = some (2265, .iload 4, 0, 0) := (sk_119 2265 rfl).trans rfl
theorem te_368_2267 : (pT M_368).find? (fun e => e.1 == 2267) = some (2267, .iconst 1, 0, 0) := (sk_119 2267 rfl).trans rfl
theorem te_368_2268 : (pT M_368).find? (fun e => e.1 == 2268) = some (2268, .iadd, 0, 0) := (sk_119 2268 rfl).trans rfl
theorem te_368_2269 : (pT M_368).find? (fun e => e.1 == 2269) = some (2269, .iaload, 0, 0) := (sk_119 2269 rfl).trans rfl
theorem te_368_2270 : (pT M_368).find? (fun e => e.1 == 2270) = some (2270, .aload_n 3, 0, 0) := (sk_119 2270 rfl).trans rfl
theorem te_368_2271 : (pT M_368).find? (fun e => e.1 == 2271) = some (2271, .invokestatic 330, 222, 8) := (sk_119 2271 rfl).trans rfl
theorem te_368_2274 : (pT M_368).find? (fun e => e.1 == 2274) = some (2274, .istore 5, 0, 0) := (sk_119 2274 rfl).trans rfl
theorem te_368_2276 : (pT M_368).find? (fun e => e.1 == 2276) = some (2276, .aload_n 2, 0, 0) := (sk_120 2276 rfl).trans rfl
theorem te_368_2277 : (pT M_368).find? (fun e => e.1 == 2277) = some (2277, .aload_n 0, 0, 0) := (sk_120 2277 rfl).trans rfl
theorem te_368_2278 : (pT M_368).find? (fun e => e.1 == 2278) = some (2278, .iload 4, 0, 0) := (sk_120 2278 rfl).trans rfl
theorem te_368_2280 : (pT M_368).find? (fun e => e.1 == 2280) = some (2280, .iconst 1, 0, 0) := (sk_120 2280 rfl).trans rfl
theorem te_368_2281 : (pT M_368).find? (fun e => e.1 == 2281) = some (2281, .iadd, 0, 0) := (sk_120 2281 rfl).trans rfl
theorem te_368_2282 : (pT M_368).find? (fun e => e.1 == 2282) = some (2282, .iaload, 0, 0) := (sk_120 2282 rfl).trans rfl
theorem te_368_2283 : (pT M_368).find? (fun e => e.1 == 2283) = some (2283, .invokevirtual 332, 358, 0) := (sk_120 2283 rfl).trans rfl
theorem te_368_2286 : (pT M_368).find? (fun e => e.1 == 2286) = some (2286, .istore 6, 0, 0) := (sk_120 2286 rfl).trans rfl
theorem te_368_2288 : (pT M_368).find? (fun e => e.1 == 2288) = some (2288, .goto 28, 0, 0) := (sk_120 2288 rfl).trans rfl
theorem te_368_2291 : (pT M_368).find? (fun e => e.1 == 2291) = some (2291, .aload_n 1, 0, 0) := (sk_120 2291 rfl).trans rfl
theorem te_368_2292 : (pT M_368).find? (fun e => e.1 == 2292) = some (2292, .aload_n 0, 0, 0) := (sk_120 2292 rfl).trans rfl
theorem te_368_2293 : (pT M_368).find? (fun e => e.1 == 2293) = some (2293, .iload 4, 0, 0) := (sk_120 2293 rfl).trans rfl
theorem te_368_2295 : (pT M_368).find? (fun e => e.1 == 2295) = some (2295, .iconst 1, 0, 0) := (sk_121 2295 rfl).trans rfl
theorem te_368_2296 : (pT M_368).find? (fun e => e.1 == 2296) = some (2296, .iadd, 0, 0) := (sk_121 2296 rfl).trans rfl
theorem te_368_2297 : (pT M_368).find? (fun e => e.1 == 2297) = some (2297, .iaload, 0, 0) := (sk_121 2297 rfl).trans rfl
theorem te_368_2298 : (pT M_368).find? (fun e => e.1 == 2298) = some (2298, .invokevirtual 333, 31, 0) := (sk_121 2298 rfl).trans rfl
theorem te_368_2301 : (pT M_368).find? (fun e => e.1 == 2301) = some (2301, .pop, 0, 0) := (sk_121 2301 rfl).trans rfl
theorem te_368_2302 : (pT M_368).find? (fun e => e.1 == 2302) = some (2302, .aload_n 2, 0, 0) := (sk_121 2302 rfl).trans rfl
theorem te_368_2303 : (pT M_368).find? (fun e => e.1 == 2303) = some (2303, .aload_n 0, 0, 0) := (sk_121 2303 rfl).trans rfl
theorem te_368_2304 : (pT M_368).find? (fun e => e.1 == 2304) = some (2304, .iload 4, 0, 0) := (sk_121 2304 rfl).trans rfl
theorem te_368_2306 : (pT M_368).find? (fun e => e.1 == 2306) = some (2306, .iconst 1, 0, 0) := (sk_121 2306 rfl).trans rfl
theorem te_368_2307 : (pT M_368).find? (fun e => e.1 == 2307) = some (2307, .iadd, 0, 0) := (sk_121 2307 rfl).trans rfl
theorem te_368_2308 : (pT M_368).find? (fun e => e.1 == 2308) = some (2308, .iaload, 0, 0) := (sk_121 2308 rfl).trans rfl
theorem te_368_2309 : (pT M_368).find? (fun e => e.1 == 2309) = some (2309, .invokevirtual 336, 366, 0) := (sk_121 2309 rfl).trans rfl
theorem te_368_2312 : (pT M_368).find? (fun e => e.1 == 2312) = some (2312, .pop, 0, 0) := (sk_122 2312 rfl).trans rfl
theorem te_368_2313 : (pT M_368).find? (fun e => e.1 == 2313) = some (2313, .goto 3, 0, 0) := (sk_122 2313 rfl).trans rfl
theorem lc_47 {S : Nat × (Nat → Int32)} {lv : LV} {h : PH} {c s : Nat} {i : Int32} (hS : S.1 ≤ 3072) (hl : LwS lv i) (hi : 0 ≤ i.toInt ∧ i.toInt + 5 < S.1) (hL : LR h) (hc : c + 8 ≤ 601024) (hs : s + 48 ≤ 7293033) (Nx : ∀ lv' h' c' s', LwS lv' i → LR h' → c' ≤ c + 8 → s' ≤ s + 48 → Vx (Ex S 24) S M_368 [] Q1 2316 lv' [] h' c' s') : Vx (Ex S 24) S M_368 [] Q1 2263 lv [] h c s := by
  have hC := Ex.mono S 24
  refine Vx.go hC te_368_2263 ?_
  refine ⟨_, hl.2.1, ⟨0, Or.inl rfl⟩, ?_⟩
  refine sc_load hC (k := 1) hl te_368_2264 te_368_2265 te_368_2267 te_368_2268 te_368_2269 (sc_in hS hi (by decide)) ?_
  refine Vx.go hC te_368_2270 ?_
  refine ⟨_, hl.2.2.2.1, ⟨173, Or.inl rfl⟩, ?_⟩
  refine Vx.go hC te_368_2271 ?_
  refine Or.inr ⟨by decide, ?_⟩
  refine p_call_mk (av := [.ref 0, .int (S.2 (i + Int32.ofInt 1).toNatClampNeg), .ref 173]) (rest := []) mt_222 rfl (by decide) (show c + 2 ≤ 601024 by omega) (show s + 12 ≤ 7293033 by omega) (fun q => by cases q) ?_
  refine g_222 (n := 6) hL (fun r3 h1 hL2 => ?_)
  show Vx (Ex S 24) S M_368 [] Q1 2274 lv [.int r3] h1 (c + 2) (s + 12)
  refine Vx.go hC te_368_2274 ?_
  refine ⟨by decide, ?_⟩
  have hl4 := LwS.st (j := 5) (v := .int r3) (by omega) hl
  show Vx (Ex S 24) S M_368 [] Q1 2276 (px_s1 lv 5 (.int r3)) [] h1 (c + 2) (s + 12)
  refine Vx.go hC te_368_2276 ?_
  refine ⟨_, hl4.2.2.1, ⟨143, Or.inl rfl⟩, ?_⟩
  refine sc_load hC (k := 1) hl4 te_368_2277 te_368_2278 te_368_2280 te_368_2281 te_368_2282 (sc_in hS hi (by decide)) ?_
  refine Vx.go hC te_368_2283 ?_
  obtain ⟨gs8, gs8g⟩ := hL2.obj (A := 143) rfl
  have hcall9 := ref_call (S := S) (n := 24) (μ := 358) (args := [.inr 143, .inl ((S.2 (i + Int32.ofInt 1).toNatClampNeg) : Int32).toInt]) (h := h1) (fun v hv => by simp only [List.mem_cons, List.not_mem_nil, or_false] at hv; rcases hv with rfl | rfl <;> first | trivial | exact wiI _) hL2 (fun mem hr => f_358 hr (fun r m' a b => ⟨a, b⟩))
  simp only [List.map_cons, List.map_nil, wv, Int32.ofInt_toInt] at hcall9
  refine p_call_mk (av := [.ref 143, .int (S.2 (i + Int32.ofInt 1).toNatClampNeg)]) (rest := []) mt_358 rfl (by decide) (show (c + 2) + 0 ≤ 601024 by omega) (show (s + 12) + 0 ≤ 7293033 by omega) (fun _ => ⟨143, gs8, rfl, gs8g⟩) ?_
  refine hC _ _ _ _ _ ?_ hcall9
  rintro _ h5 ⟨hL6, r7, rfl⟩
  show Vx (Ex S 24) S M_368 [] Q1 2286 (px_s1 lv 5 (.int r3)) [.int r7] h5 (c + 2) (s + 12)
  refine Vx.go hC te_368_2286 ?_
  refine ⟨by decide, ?_⟩
  have hl10 := LwS.st (j := 6) (v := .int r7) (by omega) hl4
  show Vx (Ex S 24) S M_368 [] Q1 2288 (px_s1 (px_s1 lv 5 (.int r3)) 6 (.int r7)) [] h5 (c + 2) (s + 12)
  refine Vx.go hC te_368_2288 ?_
  refine ⟨by decide, ?_⟩
  exact Nx _ _ _ _ hl10 hL6 (by omega) (by omega)
theorem lc_48 {S : Nat × (Nat → Int32)} {lv : LV} {h : PH} {c s : Nat} {i : Int32} (hS : S.1 ≤ 3072) (hl : LwS lv i) (hi : 0 ≤ i.toInt ∧ i.toInt + 5 < S.1) (hL : LR h) (hc : c + 8 ≤ 601024) (hs : s + 48 ≤ 7293033) (Nx : ∀ lv' h' c' s', LwS lv' i → LR h' → c' ≤ c + 8 → s' ≤ s + 48 → Vx (Ex S 24) S M_368 [] Q1 2316 lv' [] h' c' s') : Vx (Ex S 24) S M_368 [] Q1 2291 lv [] h c s := by
  have hC := Ex.mono S 24
  refine Vx.go hC te_368_2291 ?_
  refine ⟨_, hl.2.1, ⟨0, Or.inl rfl⟩, ?_⟩
  refine sc_load hC (k := 1) hl te_368_2292 te_368_2293 te_368_2295 te_368_2296 te_368_2297 (sc_in hS hi (by decide)) ?_
  refine Vx.go hC te_368_2298 ?_
  obtain ⟨gs4, gs4g⟩ := hL.obj (A := 0) rfl
  have hcall5 := cls_call (S := S) (n := 24) (μ := 31) (args := [.inr 0, .inl ((S.2 (i + Int32.ofInt 1).toNatClampNeg) : Int32).toInt]) (h := h) (es := fun _ => False) (fun v hv => by simp only [List.mem_cons, List.not_mem_nil, or_false] at hv; rcases hv with rfl | rfl <;> first | trivial | exact wiI _) hL (fun mem hr => f_31 hr (fun r m' a b => ⟨a, b⟩))
  simp only [List.map_cons, List.map_nil, wv, Int32.ofInt_toInt] at hcall5
  refine p_call_mk (av := [.ref 0, .int (S.2 (i + Int32.ofInt 1).toNatClampNeg)]) (rest := []) mt_31 rfl (by decide) (show c + 0 ≤ 601024 by omega) (show s + 0 ≤ 7293033 by omega) (fun _ => ⟨0, gs4, rfl, gs4g⟩) ?_
  refine hC _ _ _ _ _ ?_ hcall5
  rintro _ h1 ⟨hL2, hor⟩
  obtain ⟨r3, rfl⟩ := hor.resolve_right (fun ⟨_, q, _⟩ => q)
  show Vx (Ex S 24) S M_368 [] Q1 2301 lv [.int r3] h1 c s
  refine Vx.go hC te_368_2301 ?_
  refine ⟨_, _, rfl, rfl, ?_⟩
  show Vx (Ex S 24) S M_368 [] Q1 2302 lv [] h1 c s
  refine Vx.go hC te_368_2302 ?_
  refine ⟨_, hl.2.2.1, ⟨143, Or.inl rfl⟩, ?_⟩
  refine sc_load hC (k := 1) hl te_368_2303 te_368_2304 te_368_2306 te_368_2307 te_368_2308 (sc_in hS hi (by decide)) ?_
  refine Vx.go hC te_368_2309 ?_
  obtain ⟨gs9, gs9g⟩ := hL2.obj (A := 143) rfl
  have hcall10 := ref_call (S := S) (n := 24) (μ := 366) (args := [.inr 143, .inl ((S.2 (i + Int32.ofInt 1).toNatClampNeg) : Int32).toInt]) (h := h1) (fun v hv => by simp only [List.mem_cons, List.not_mem_nil, or_false] at hv; rcases hv with rfl | rfl <;> first | trivial | exact wiI _) hL2 (fun mem hr => f_366 hr (fun r m' a b => ⟨a, b⟩))
  simp only [List.map_cons, List.map_nil, wv, Int32.ofInt_toInt] at hcall10
  refine p_call_mk (av := [.ref 143, .int (S.2 (i + Int32.ofInt 1).toNatClampNeg)]) (rest := []) mt_366 rfl (by decide) (show c + 0 ≤ 601024 by omega) (show s + 0 ≤ 7293033 by omega) (fun _ => ⟨143, gs9, rfl, gs9g⟩) ?_
  refine hC _ _ _ _ _ ?_ hcall10
  rintro _ h6 ⟨hL7, r8, rfl⟩
  show Vx (Ex S 24) S M_368 [] Q1 2312 lv [.int r8] h6 c s
  refine Vx.go hC te_368_2312 ?_
  refine ⟨_, _, rfl, rfl, ?_⟩
  show Vx (Ex S 24) S M_368 [] Q1 2313 lv [] h6 c s
  refine Vx.go hC te_368_2313 ?_
  refine ⟨by decide, ?_⟩
  exact Nx _ _ _ _ hl hL7 (by omega) (by omega)
end
section
/-! reckon on both sides -/
def Hf0 (p0 p1 p2 p3 p4 t y : Int) (m' : MM) : Prop := ClS m' ∧ RefOK m' ∧ ∃ m, RelB m ∧ ((t = 0 ∧ ((0 ≤ p0 ∧ p0 < 4) ∧ srcX p1 p2 ∧ srcX p3 p4) ∧ m 1 0 < 8 ∧ y = m 1 0 ∧ m' = upm (putM m (m 1 0).toNat p0 p1 p2 p3 p4) 0 11 1) ∨ (t = 1 ∧ ¬ ((0 ≤ p0 ∧ p0 < 4) ∧ srcX p1 p2 ∧ srcX p3 p4) ∧ m' = m) ∨ (t = 2 ∧ ((0 ≤ p0 ∧ p0 < 4) ∧ srcX p1 p2 ∧ srcX p3 p4) ∧ ¬ m 1 0 < 8 ∧ m' = m))
theorem cl0 {S : Nat × (Nat → Int32)} {n : Nat} {m : MM} {p0 p1 p2 p3 p4 : Int} (hc : ClS m) (hr : RefOK m) (hb : RelB m) : CQI (Ex S (n + 3)) 44 [.inr 0, .inl p0, .inl p1, .inl p2, .inl p3, .inl p4] m (fun y m' => Hf0 p0 p1 p2 p3 p4 0 y m') (fun e m' => (e = 0 ∧ Hf0 p0 p1 p2 p3 p4 1 0 m') ∨ (e = 1 ∧ Hf0 p0 p1 p2 p3 p4 2 0 m')) :=
  f_44x hc (fun q h8 r m' er hc' em => ⟨hc', hr.fr (fun A i a b => by rw [em]; unfold putM; repeat rw [upm_ne (by omega)]), m, hb, Or.inl ⟨rfl, q, h8, er, em⟩⟩) (fun q => Or.inl ⟨rfl, hc, hr, m, hb, Or.inr (Or.inl ⟨rfl, q, rfl⟩)⟩) (fun q h8 => Or.inr ⟨rfl, hc, hr, m, hb, Or.inr (Or.inr ⟨rfl, q, h8, rfl⟩)⟩)
theorem rf0 {S : Nat × (Nat → Int32)} {n : Nat} {m' : MM} {p0 p1 p2 p3 p4 t y : Int} (H : Hf0 p0 p1 p2 p3 p4 t y m') : CQI (Ex S (n + 3)) 226 [.inr 143, .inl p0, .inl p1, .inl p2, .inl p3, .inl p4] m' (fun r m2 => ClS m2 ∧ RefOK m2 ∧ RelB m2 ∧ m2 143 0 = t ∧ (t = 0 → r = y)) (fun _ _ => False) := by
  obtain ⟨hc, hr, m, hb, H⟩ := H
  have h8 : 0 ≤ m' 143 1 ∧ m' 143 1 ≤ 8 := hr.ops.1
  have hz := hb.1
  have e1 : m' 143 1 = m 143 1 := by
    rcases H with ⟨-, -, -, -, e⟩ | ⟨-, -, e⟩ | ⟨-, -, -, e⟩ <;> rw [e]
    unfold putM
    repeat rw [upm_ne (by omega)]
  refine f_226x h8 (fun q l r m2 er em => ?_) (fun q => ?_) (fun q l => ?_)
  · rcases H with ⟨rfl, q', l', ey, e⟩ | ⟨rfl, q', e⟩ | ⟨rfl, q', l', e⟩
    · have en : (m' 143 1).toNat = (m 1 0).toNat := by rw [e1, hz]
      refine ⟨hc.ref (fun A i w => ?_), ?_, ?_, ?_, fun _ => by rw [er, ey, e1, hz]⟩
      · unfold pRf at w
        rw [em]; unfold addM
        repeat rw [upm_ne (by omega)]
      · rw [em]
        have es : upm m' 143 0 0 143 1 = m' 143 1 := upm_ne (by omega)
        refine RefOK.add (hr.th' (by omega)) (by rw [es]; omega) (by rw [es]; exact l) (by omega) (fun _ => ⟨q.2.1.ok, q.2.2.ok⟩) (fun z => by omega) (fun z => by omega) ?_
        have := q.2.2
        unfold srcX at this
        omega
      · rw [em, en]
        refine RelB.add hb (by omega) (fun A i a b => ?_)
        rw [upm_ne (by omega), e, upm_ne (by omega)]
      · rw [em]; unfold addM
        repeat rw [upm_ne (by omega)]
        exact upm_eq
    · exact absurd q q'
    · omega
  · rcases H with ⟨rfl, q', l', ey, e⟩ | ⟨rfl, q', e⟩ | ⟨rfl, q', l', e⟩
    · exact absurd q' q
    · subst e
      exact ⟨hc.ref (fun A i w => upm_ne (by unfold pRf at w; omega)), hr.th' (by omega), hb.one (by omega), upm_eq, fun z => by omega⟩
    · exact absurd q' q
  · rcases H with ⟨rfl, q', l', ey, e⟩ | ⟨rfl, q', e⟩ | ⟨rfl, q', l', e⟩
    · omega
    · exact absurd q q'
    · subst e
      exact ⟨hc.ref (fun A i w => upm_ne (by unfold pRf at w; omega)), hr.th' (by omega), hb.one (by omega), upm_eq, fun z => by omega⟩
end
section
/-! load, store, drop, first, kind, unit on both sides (wip/hand/pair.py) -/
def Hf1 (p0 p1 t y : Int) (m' : MM) : Prop := ClS m' ∧ RefOK m' ∧ ∃ m, RelB m ∧ ((t = 0 ∧ (rowX p0 p1) ∧ m 1 0 < 8 ∧ y = m 1 0 ∧ m' = upm (putM m (m 1 0).toNat 4 p0 p1 0 0) 0 11 1) ∨ (t = 1 ∧ ¬ (rowX p0 p1) ∧ m' = m) ∨ (t = 2 ∧ (rowX p0 p1) ∧ ¬ m 1 0 < 8 ∧ m' = m))
theorem cl1 {S : Nat × (Nat → Int32)} {n : Nat} {m : MM} {p0 p1 : Int} (hc : ClS m) (hr : RefOK m) (hb : RelB m) : CQI (Ex S (n + 3)) 49 [.inr 0, .inl p0, .inl p1] m (fun y m' => Hf1 p0 p1 0 y m') (fun e m' => (e = 0 ∧ Hf1 p0 p1 1 0 m') ∨ (e = 1 ∧ Hf1 p0 p1 2 0 m')) :=
  f_49x hc (fun q h8 r m' er hc' em => ⟨hc', hr.fr (fun A i a b => by rw [em]; unfold putM; repeat rw [upm_ne (by omega)]), m, hb, Or.inl ⟨rfl, q, h8, er, em⟩⟩) (fun q => Or.inl ⟨rfl, hc, hr, m, hb, Or.inr (Or.inl ⟨rfl, q, rfl⟩)⟩) (fun q h8 => Or.inr ⟨rfl, hc, hr, m, hb, Or.inr (Or.inr ⟨rfl, q, h8, rfl⟩)⟩)
theorem rf1 {S : Nat × (Nat → Int32)} {n : Nat} {m' : MM} {p0 p1 t y : Int} (H : Hf1 p0 p1 t y m') : CQI (Ex S (n + 3)) 230 [.inr 143, .inl p0, .inl p1] m' (fun r m2 => ClS m2 ∧ RefOK m2 ∧ RelB m2 ∧ m2 143 0 = t ∧ (t = 0 → r = y)) (fun _ _ => False) := by
  obtain ⟨hc, hr, m, hb, H⟩ := H
  have h8 : 0 ≤ m' 143 1 ∧ m' 143 1 ≤ 8 := hr.ops.1
  have hz := hb.1
  have e1 : m' 143 1 = m 143 1 := by
    rcases H with ⟨-, -, -, -, e⟩ | ⟨-, -, e⟩ | ⟨-, -, -, e⟩ <;> rw [e]
    unfold putM
    repeat rw [upm_ne (by omega)]
  refine f_230x h8 (fun q l r m2 er em => ?_) (fun q => ?_) (fun q l => ?_)
  · rcases H with ⟨rfl, q', l', ey, e⟩ | ⟨rfl, q', e⟩ | ⟨rfl, q', l', e⟩
    · have en : (m' 143 1).toNat = (m 1 0).toNat := by rw [e1, hz]
      refine ⟨hc.ref (fun A i w => ?_), ?_, ?_, ?_, fun _ => by rw [er, ey, e1, hz]⟩
      · unfold pRf at w
        rw [em]; unfold addM
        repeat rw [upm_ne (by omega)]
      · rw [em]
        have es : upm m' 143 0 0 143 1 = m' 143 1 := upm_ne (by omega)
        refine RefOK.add (hr.th' (by omega)) (by rw [es]; omega) (by rw [es]; exact l) (by omega) (fun z => by omega) (fun _ => q.w) (fun z => by omega) ?_
        omega
      · rw [em, en]
        refine RelB.add hb (by omega) (fun A i a b => ?_)
        rw [upm_ne (by omega), e, upm_ne (by omega)]
      · rw [em]; unfold addM
        repeat rw [upm_ne (by omega)]
        exact upm_eq
    · exact absurd q q'
    · omega
  · rcases H with ⟨rfl, q', l', ey, e⟩ | ⟨rfl, q', e⟩ | ⟨rfl, q', l', e⟩
    · exact absurd q' q
    · subst e
      exact ⟨hc.ref (fun A i w => upm_ne (by unfold pRf at w; omega)), hr.th' (by omega), hb.one (by omega), upm_eq, fun z => by omega⟩
    · exact absurd q' q
  · rcases H with ⟨rfl, q', l', ey, e⟩ | ⟨rfl, q', e⟩ | ⟨rfl, q', l', e⟩
    · omega
    · exact absurd q q'
    · subst e
      exact ⟨hc.ref (fun A i w => upm_ne (by unfold pRf at w; omega)), hr.th' (by omega), hb.one (by omega), upm_eq, fun z => by omega⟩
def Hf2 (p0 p1 p2 p3 t y : Int) (m' : MM) : Prop := ClS m' ∧ RefOK m' ∧ ∃ m, RelB m ∧ ((t = 0 ∧ (srcX p0 p1 ∧ rowX p2 p3) ∧ m 1 0 < 8 ∧ y = m 1 0 ∧ m' = upm (putM m (m 1 0).toNat 5 p0 p1 p2 p3) 0 11 1) ∨ (t = 1 ∧ ¬ (srcX p0 p1 ∧ rowX p2 p3) ∧ m' = m) ∨ (t = 2 ∧ (srcX p0 p1 ∧ rowX p2 p3) ∧ ¬ m 1 0 < 8 ∧ m' = m))
theorem cl2 {S : Nat × (Nat → Int32)} {n : Nat} {m : MM} {p0 p1 p2 p3 : Int} (hc : ClS m) (hr : RefOK m) (hb : RelB m) : CQI (Ex S (n + 3)) 52 [.inr 0, .inl p0, .inl p1, .inl p2, .inl p3] m (fun y m' => Hf2 p0 p1 p2 p3 0 y m') (fun e m' => (e = 0 ∧ Hf2 p0 p1 p2 p3 1 0 m') ∨ (e = 1 ∧ Hf2 p0 p1 p2 p3 2 0 m')) :=
  f_52x hc (fun q h8 r m' er hc' em => ⟨hc', hr.fr (fun A i a b => by rw [em]; unfold putM; repeat rw [upm_ne (by omega)]), m, hb, Or.inl ⟨rfl, q, h8, er, em⟩⟩) (fun q => Or.inl ⟨rfl, hc, hr, m, hb, Or.inr (Or.inl ⟨rfl, q, rfl⟩)⟩) (fun q h8 => Or.inr ⟨rfl, hc, hr, m, hb, Or.inr (Or.inr ⟨rfl, q, h8, rfl⟩)⟩)
theorem rf2 {S : Nat × (Nat → Int32)} {n : Nat} {m' : MM} {p0 p1 p2 p3 t y : Int} (H : Hf2 p0 p1 p2 p3 t y m') : CQI (Ex S (n + 3)) 232 [.inr 143, .inl p0, .inl p1, .inl p2, .inl p3] m' (fun r m2 => ClS m2 ∧ RefOK m2 ∧ RelB m2 ∧ m2 143 0 = t ∧ (t = 0 → r = y)) (fun _ _ => False) := by
  obtain ⟨hc, hr, m, hb, H⟩ := H
  have h8 : 0 ≤ m' 143 1 ∧ m' 143 1 ≤ 8 := hr.ops.1
  have hz := hb.1
  have e1 : m' 143 1 = m 143 1 := by
    rcases H with ⟨-, -, -, -, e⟩ | ⟨-, -, e⟩ | ⟨-, -, -, e⟩ <;> rw [e]
    unfold putM
    repeat rw [upm_ne (by omega)]
  refine f_232x h8 (fun q l r m2 er em => ?_) (fun q => ?_) (fun q l => ?_)
  · rcases H with ⟨rfl, q', l', ey, e⟩ | ⟨rfl, q', e⟩ | ⟨rfl, q', l', e⟩
    · have en : (m' 143 1).toNat = (m 1 0).toNat := by rw [e1, hz]
      refine ⟨hc.ref (fun A i w => ?_), ?_, ?_, ?_, fun _ => by rw [er, ey, e1, hz]⟩
      · unfold pRf at w
        rw [em]; unfold addM
        repeat rw [upm_ne (by omega)]
      · rw [em]
        have es : upm m' 143 0 0 143 1 = m' 143 1 := upm_ne (by omega)
        refine RefOK.add (hr.th' (by omega)) (by rw [es]; omega) (by rw [es]; exact l) (by omega) (fun z => by omega) (fun z => by omega) (fun _ => ⟨q.1.ok, q.2.w⟩) ?_
        have := q.2.w; omega
      · rw [em, en]
        refine RelB.add hb (by omega) (fun A i a b => ?_)
        rw [upm_ne (by omega), e, upm_ne (by omega)]
      · rw [em]; unfold addM
        repeat rw [upm_ne (by omega)]
        exact upm_eq
    · exact absurd q q'
    · omega
  · rcases H with ⟨rfl, q', l', ey, e⟩ | ⟨rfl, q', e⟩ | ⟨rfl, q', l', e⟩
    · exact absurd q' q
    · subst e
      exact ⟨hc.ref (fun A i w => upm_ne (by unfold pRf at w; omega)), hr.th' (by omega), hb.one (by omega), upm_eq, fun z => by omega⟩
    · exact absurd q' q
  · rcases H with ⟨rfl, q', l', ey, e⟩ | ⟨rfl, q', e⟩ | ⟨rfl, q', l', e⟩
    · omega
    · exact absurd q q'
    · subst e
      exact ⟨hc.ref (fun A i w => upm_ne (by unfold pRf at w; omega)), hr.th' (by omega), hb.one (by omega), upm_eq, fun z => by omega⟩
def Hf3 (t y : Int) (m' : MM) : Prop := ClS m' ∧ RefOK m' ∧ ∃ m, RelB m ∧ ((t = 0 ∧ 0 < m 1 0 ∧ y = m 1 0 - 1 ∧ m' = upm (upm m 1 0 (m 1 0 - 1)) 0 11 1) ∨ (t = 1 ∧ ¬ 0 < m 1 0 ∧ m' = m))
theorem cl3 {S : Nat × (Nat → Int32)} {n : Nat} {m : MM} (hc : ClS m) (hr : RefOK m) (hb : RelB m) : CQI (Ex S (n + 3)) 54 [.inr 0] m (fun y m' => Hf3 0 y m') (fun e m' => (e = 1 ∧ Hf3 1 0 m')) :=
  f_54x hc (fun q r m' er hc' em => ⟨hc', hr.fr (fun A i a b => by rw [em]; repeat rw [upm_ne (by omega)]), m, hb, Or.inl ⟨rfl, q, er, em⟩⟩) (fun q => ⟨rfl, hc, hr, m, hb, Or.inr ⟨rfl, q, rfl⟩⟩)
theorem rf3 {S : Nat × (Nat → Int32)} {n : Nat} {m' : MM} {t y : Int} (H : Hf3 t y m') : CQI (Ex S (n + 3)) 233 [.inr 143] m' (fun r m2 => ClS m2 ∧ RefOK m2 ∧ RelB m2 ∧ m2 143 0 = t ∧ (t = 0 → r = y)) (fun _ _ => False) := by
  obtain ⟨hc, hr, m, hb, H⟩ := H
  have h8 : 0 ≤ m' 143 1 ∧ m' 143 1 ≤ 8 := hr.ops.1
  have hz := hb.1
  have e1 : m' 143 1 = m 143 1 := by
    rcases H with ⟨-, -, -, e⟩ | ⟨-, -, e⟩ <;> rw [e]
    repeat rw [upm_ne (by omega)]
  refine f_233x h8 (fun q r m2 er em => ?_) (fun q => ?_)
  · rcases H with ⟨rfl, q', ey, e⟩ | ⟨rfl, q', e⟩
    · refine ⟨hc.ref (fun A i w => ?_), ?_, ?_, ?_, fun _ => by rw [er, ey, e1, hz]⟩
      · unfold pRf at w
        rw [em]
        repeat rw [upm_ne (by omega)]
      · rw [em]
        exact RefOK.up (hr.th' (by omega)) (Or.inl ⟨rfl, rfl, by omega, by omega⟩)
      · rw [em, e1]
        refine RelB.size (z := m 1 0 - 1) hb ?_ ?_ (fun A i w => ?_)
        · rw [upm_ne (by omega), upm_ne (by omega), e, upm_ne (by omega), upm_eq]
        · rw [upm_eq, hz]
        · rw [upm_ne (by omega), upm_ne (by omega), e, upm_ne (by omega), upm_ne (by omega)]
      · rw [em, upm_ne (by omega), upm_eq]
    · omega
  · rcases H with ⟨rfl, q', ey, e⟩ | ⟨rfl, q', e⟩
    · omega
    · subst e
      exact ⟨hc.ref (fun A i w => upm_ne (by unfold pRf at w; omega)), hr.th' (by omega), hb.one (by omega), upm_eq, fun z => by omega⟩
def Hf4 (p0 p1 t y : Int) (m' : MM) : Prop := ClS m' ∧ RefOK m' ∧ ∃ m, RelB m ∧ ((t = 0 ∧ (0 ≤ p0 ∧ p0 < m 1 0) ∧ (-9999 ≤ p1 ∧ p1 ≤ 9999) ∧ y = m 4 p0.toNat ∧ m' = upm m 4 p0.toNat p1) ∨ (t = 1 ∧ ¬ (0 ≤ p0 ∧ p0 < m 1 0) ∧ m' = m) ∨ (t = 2 ∧ (0 ≤ p0 ∧ p0 < m 1 0) ∧ ¬ (-9999 ≤ p1 ∧ p1 ≤ 9999) ∧ m' = m))
theorem cl4 {S : Nat × (Nat → Int32)} {n : Nat} {m : MM} {p0 p1 : Int} (hc : ClS m) (hr : RefOK m) (hb : RelB m) : CQI (Ex S (n + 3)) 56 [.inr 0, .inl p0, .inl p1] m (fun y m' => Hf4 p0 p1 0 y m') (fun e m' => (e = 2 ∧ Hf4 p0 p1 1 0 m') ∨ (e = 0 ∧ Hf4 p0 p1 2 0 m')) :=
  f_56x (n := n + 1) hc (fun q l r m' er hc' em => ⟨hc', hr.fr (fun A i a b => by rw [em]; repeat rw [upm_ne (by omega)]), m, hb, Or.inl ⟨rfl, q, l, er, em⟩⟩) (fun q => Or.inl ⟨rfl, hc, hr, m, hb, Or.inr (Or.inl ⟨rfl, q, rfl⟩)⟩) (fun q l => Or.inr ⟨rfl, hc, hr, m, hb, Or.inr (Or.inr ⟨rfl, q, l, rfl⟩)⟩)
theorem rf4 {S : Nat × (Nat → Int32)} {n : Nat} {m' : MM} {p0 p1 t y : Int} (H : Hf4 p0 p1 t y m') : CQI (Ex S (n + 4)) 234 [.inr 143, .inl p0, .inl p1] m' (fun r m2 => ClS m2 ∧ RefOK m2 ∧ RelB m2 ∧ m2 143 0 = t ∧ (t = 0 → r = y)) (fun _ _ => False) := by
  obtain ⟨hc, hr, m, hb, H⟩ := H
  have h8 : 0 ≤ m' 143 1 ∧ m' 143 1 ≤ 8 := hr.ops.1
  have hz := hb.1
  have e1 : m' 143 1 = m 143 1 := by
    rcases H with ⟨-, -, -, -, e⟩ | ⟨-, -, e⟩ | ⟨-, -, -, e⟩ <;> rw [e]
    repeat rw [upm_ne (by omega)]
  refine f_234x h8 (fun q l r m2 er em => ?_) (fun q => ?_) (fun q l => ?_)
  · rcases H with ⟨rfl, q', l', ey, e⟩ | ⟨rfl, q', e⟩ | ⟨rfl, q', l', e⟩
    · have er2 : m' 149 p0.toNat = m 149 p0.toNat := by
        rw [e]
        repeat rw [upm_ne (by omega)]
      have er3 : m 149 p0.toNat = m 4 p0.toNat := (hb.2.1 p0.toNat (by omega)).2.2.2.2.2.symm
      refine ⟨hc.ref (fun A i w => ?_), ?_, ?_, ?_, fun _ => by rw [er, ey, er2, er3]⟩
      · unfold pRf at w
        rw [em]
        repeat rw [upm_ne (by omega)]
      · rw [em]
        exact RefOK.up (hr.th' (by omega)) (by omega)
      · rw [em]
        refine RelB.row (A := 4) (B := 149) hb (by omega) (fun C j a b => ?_)
        rw [upm_ne (by omega), e]
      · rw [em, upm_ne (by omega), upm_eq]
    · omega
    · omega
  · rcases H with ⟨rfl, q', l', ey, e⟩ | ⟨rfl, q', e⟩ | ⟨rfl, q', l', e⟩
    · omega
    · subst e
      exact ⟨hc.ref (fun A i w => upm_ne (by unfold pRf at w; omega)), hr.th' (by omega), hb.one (by omega), upm_eq, fun z => by omega⟩
    · omega
  · rcases H with ⟨rfl, q', l', ey, e⟩ | ⟨rfl, q', e⟩ | ⟨rfl, q', l', e⟩
    · omega
    · omega
    · subst e
      exact ⟨hc.ref (fun A i w => upm_ne (by unfold pRf at w; omega)), hr.th' (by omega), hb.one (by omega), upm_eq, fun z => by omega⟩
def Hf6 (p0 p1 t y : Int) (m' : MM) : Prop := ClS m' ∧ RefOK m' ∧ ∃ m, RelB m ∧ ((t = 0 ∧ (0 ≤ p0 ∧ p0 < 3) ∧ (1 ≤ p1 ∧ p1 ≤ 3) ∧ y = m 8 p0.toNat ∧ m' = upm (upm m 8 p0.toNat p1) 0 11 1) ∨ (t = 1 ∧ ¬ (0 ≤ p0 ∧ p0 < 3) ∧ m' = m) ∨ (t = 2 ∧ (0 ≤ p0 ∧ p0 < 3) ∧ ¬ (1 ≤ p1 ∧ p1 ≤ 3) ∧ m' = m))
theorem cl6 {S : Nat × (Nat → Int32)} {n : Nat} {m : MM} {p0 p1 : Int} (hc : ClS m) (hr : RefOK m) (hb : RelB m) : CQI (Ex S (n + 3)) 62 [.inr 0, .inl p0, .inl p1] m (fun y m' => Hf6 p0 p1 0 y m') (fun e m' => (e = 2 ∧ Hf6 p0 p1 1 0 m') ∨ (e = 0 ∧ Hf6 p0 p1 2 0 m')) :=
  f_62x (n := n + 1) hc (fun q l r m' er hc' em => ⟨hc', hr.fr (fun A i a b => by rw [em]; repeat rw [upm_ne (by omega)]), m, hb, Or.inl ⟨rfl, q, l, er, em⟩⟩) (fun q => Or.inl ⟨rfl, hc, hr, m, hb, Or.inr (Or.inl ⟨rfl, q, rfl⟩)⟩) (fun q l => Or.inr ⟨rfl, hc, hr, m, hb, Or.inr (Or.inr ⟨rfl, q, l, rfl⟩)⟩)
theorem rf6 {S : Nat × (Nat → Int32)} {n : Nat} {m' : MM} {p0 p1 t y : Int} (H : Hf6 p0 p1 t y m') : CQI (Ex S (n + 4)) 237 [.inr 143, .inl p0, .inl p1] m' (fun r m2 => ClS m2 ∧ RefOK m2 ∧ RelB m2 ∧ m2 143 0 = t ∧ (t = 0 → r = y)) (fun _ _ => False) := by
  obtain ⟨hc, hr, m, hb, H⟩ := H
  have h8 : 0 ≤ m' 143 1 ∧ m' 143 1 ≤ 8 := hr.ops.1
  have hz := hb.1
  have e1 : m' 143 1 = m 143 1 := by
    rcases H with ⟨-, -, -, -, e⟩ | ⟨-, -, e⟩ | ⟨-, -, -, e⟩ <;> rw [e]
    repeat rw [upm_ne (by omega)]
  refine f_237x h8 (fun q l r m2 er em => ?_) (fun q => ?_) (fun q l => ?_)
  · rcases H with ⟨rfl, q', l', ey, e⟩ | ⟨rfl, q', e⟩ | ⟨rfl, q', l', e⟩
    · have er2 : m' 153 p0.toNat = m 153 p0.toNat := by
        rw [e]
        repeat rw [upm_ne (by omega)]
      have er3 : m 153 p0.toNat = m 8 p0.toNat := (hb.2.2.2 p0.toNat (by omega)).symm
      refine ⟨hc.ref (fun A i w => ?_), ?_, ?_, ?_, fun _ => by rw [er, ey, er2, er3]⟩
      · unfold pRf at w
        rw [em]
        repeat rw [upm_ne (by omega)]
      · rw [em]
        exact RefOK.up (hr.th' (by omega)) (by omega)
      · rw [em]
        refine RelB.row (A := 8) (B := 153) hb (by omega) (fun C j a b => ?_)
        rw [upm_ne (by omega), e, upm_ne (by omega)]
      · rw [em, upm_ne (by omega), upm_eq]
    · omega
    · omega
  · rcases H with ⟨rfl, q', l', ey, e⟩ | ⟨rfl, q', e⟩ | ⟨rfl, q', l', e⟩
    · omega
    · subst e
      exact ⟨hc.ref (fun A i w => upm_ne (by unfold pRf at w; omega)), hr.th' (by omega), hb.one (by omega), upm_eq, fun z => by omega⟩
    · omega
  · rcases H with ⟨rfl, q', l', ey, e⟩ | ⟨rfl, q', e⟩ | ⟨rfl, q', l', e⟩
    · omega
    · omega
    · subst e
      exact ⟨hc.ref (fun A i w => upm_ne (by unfold pRf at w; omega)), hr.th' (by omega), hb.one (by omega), upm_eq, fun z => by omega⟩
def Hf5 (p0 p1 p2 p3 t y : Int) (m' : MM) : Prop := ClS m' ∧ RefOK m' ∧ ∃ m, RelB m ∧ ((t = 0 ∧ (0 ≤ p0 ∧ p0 < 6) ∧ ((0 ≤ p1 ∧ p1 < 3) ∧ (1 ≤ p2 ∧ p2 ≤ 6) ∧ 1 ≤ p3 ∧ p3 ≤ 15) ∧ y = 0 ∧ m' = upm (upm (upm (upm m 5 p0.toNat p1) 6 p0.toNat p2) 7 p0.toNat p3) 0 11 1) ∨ (t = 1 ∧ ¬ (0 ≤ p0 ∧ p0 < 6) ∧ m' = m) ∨ (t = 2 ∧ (0 ≤ p0 ∧ p0 < 6) ∧ ¬ ((0 ≤ p1 ∧ p1 < 3) ∧ (1 ≤ p2 ∧ p2 ≤ 6) ∧ 1 ≤ p3 ∧ p3 ≤ 15) ∧ m' = m))
theorem cl5 {S : Nat × (Nat → Int32)} {n : Nat} {m : MM} {p0 p1 p2 p3 : Int} (hc : ClS m) (hr : RefOK m) (hb : RelB m) : CQV (Ex S (n + 3)) 59 [.inr 0, .inl p0, .inl p1, .inl p2, .inl p3] m (fun m' => Hf5 p0 p1 p2 p3 0 0 m') (fun e m' => (e = 2 ∧ Hf5 p0 p1 p2 p3 1 0 m') ∨ (e = 0 ∧ Hf5 p0 p1 p2 p3 2 0 m')) :=
  f_59x (n := n + 1) hc (fun q l m' hc' em => ⟨hc', hr.fr (fun A i a b => by rw [em]; repeat rw [upm_ne (by omega)]), m, hb, Or.inl ⟨rfl, q, l, rfl, em⟩⟩) (fun q => Or.inl ⟨rfl, hc, hr, m, hb, Or.inr (Or.inl ⟨rfl, q, rfl⟩)⟩) (fun q l => Or.inr ⟨rfl, hc, hr, m, hb, Or.inr (Or.inr ⟨rfl, q, l, rfl⟩)⟩)
theorem rf5 {S : Nat × (Nat → Int32)} {n : Nat} {m' : MM} {p0 p1 p2 p3 t y : Int} (H : Hf5 p0 p1 p2 p3 t y m') : CQI (Ex S (n + 4)) 236 [.inr 143, .inl p0, .inl p1, .inl p2, .inl p3] m' (fun r m2 => ClS m2 ∧ RefOK m2 ∧ RelB m2 ∧ m2 143 0 = t ∧ (t = 0 → r = y)) (fun _ _ => False) := by
  obtain ⟨hc, hr, m, hb, H⟩ := H
  have h8 : 0 ≤ m' 143 1 ∧ m' 143 1 ≤ 8 := hr.ops.1
  refine f_236x h8 (fun q l m2 em => ?_) (fun q => ?_) (fun q l => ?_)
  · rcases H with ⟨rfl, q', l', ey, e⟩ | ⟨rfl, q', e⟩ | ⟨rfl, q', l', e⟩
    · refine ⟨hc.ref (fun A i w => ?_), ?_, ?_, ?_, fun _ => ey.symm⟩
      · unfold pRf at w
        rw [em]
        repeat rw [upm_ne (by omega)]
      · rw [em]
        exact RefOK.up (RefOK.up (RefOK.up (hr.th' (by omega)) (by omega)) (by omega)) (by omega)
      · have b1 := RelB.row (A := 5) (B := 150) (i := p0.toNat) (x := p1) hb (by omega) (m2 := upm m 5 p0.toNat p1) (fun C j a b => rfl)
        have b2 := RelB.row (A := 6) (B := 151) (i := p0.toNat) (x := p2) b1 (by omega) (fun C j a b => rfl)
        have b3 := RelB.row (A := 7) (B := 152) (i := p0.toNat) (x := p3) b2 (by omega) (fun C j a b => rfl)
        refine b3.fr (fun A i w => ?_)
        rw [em, e]
        unfold upm
        repeat' split
        all_goals first | rfl | omega
      · rw [em]
        repeat rw [upm_ne (by omega)]
        exact upm_eq
    · omega
    · omega
  · rcases H with ⟨rfl, q', l', ey, e⟩ | ⟨rfl, q', e⟩ | ⟨rfl, q', l', e⟩
    · omega
    · subst e
      exact ⟨hc.ref (fun A i w => upm_ne (by unfold pRf at w; omega)), hr.th' (by omega), hb.one (by omega), upm_eq, fun z => by omega⟩
    · omega
  · rcases H with ⟨rfl, q', l', ey, e⟩ | ⟨rfl, q', e⟩ | ⟨rfl, q', l', e⟩
    · omega
    · omega
    · subst e
      exact ⟨hc.ref (fun A i w => upm_ne (by unfold pRf at w; omega)), hr.th' (by omega), hb.one (by omega), upm_eq, fun z => by omega⟩
end
section
/-! isSound and need on both sides -/
theorem RelB.ops {m : MM} (h : RelB m) {o : Nat} (ho : o < 8) : csN m o = srcN m o ∧ (∀ k : Nat, k < 2 → m 3 (4 * o + 2 * k) = srcA m o k ∧ m 3 (4 * o + 2 * k + 1) = srcB m o k) := by
  have q := h.2.1 o ho
  refine ⟨by unfold csN srcN; rw [q.1], fun k hk => ?_⟩
  have a : k = 0 ∨ k = 1 := by omega
  rcases a with rfl | rfl
  · exact ⟨q.2.1, q.2.2.1⟩
  · exact ⟨q.2.2.2.1, q.2.2.2.2.1⟩
theorem csN_rg (m : MM) (o : Nat) : 0 ≤ csN m o ∧ csN m o ≤ 2 := csN_le m o
theorem RelB.snd {m : MM} (h : RelB m) (hr : RefOK m) : SndX m ↔ SoundM m := by
  have h8 := hr.ops.1
  have hz := h.1
  constructor
  · intro hs o ho k hk hn
    have q := h.ops (o := o) (by omega)
    have w := csN_rg m o
    have s := hs o k.toNat (by omega) (by rw [q.1]; omega)
    have e := q.2 k.toNat (by rw [q.1] at w; omega)
    have ek : ((k.toNat : Nat) : Int) = k := by omega
    unfold SrcC at s
    rw [e.1, e.2, ek] at s
    unfold SrcS
    rcases s with s | ⟨s1, s2, s3⟩
    · exact Or.inl s
    · have kk : m 2 (srcA m o k).toNat = m 144 (srcA m o k).toNat := by
        have so := hr.ops.src (o := o) (by omega) hk hn
        unfold srcOK at so
        exact (h.2.1 _ (by omega)).1
      rw [kk] at s2
      exact Or.inr ⟨by omega, s2, by omega⟩
  · intro hs o k ho hn
    have q := h.ops (o := o) (by omega)
    have w := csN_rg m o
    have s := hs o (by omega) k (by omega) (by rw [← q.1]; exact hn)
    have e := q.2 k (by omega)
    unfold SrcC
    rw [e.1, e.2]
    have so := hr.ops.src (o := o) (by omega) (k := (k : Int)) (by omega) (by rw [← q.1]; exact hn)
    unfold SrcS at s
    unfold srcOK at so
    rcases s with s | ⟨s1, s2, s3⟩
    · exact Or.inl s
    · by_cases w2 : srcA m o k < 0
      · exact Or.inl w2
      · have kk : m 2 (srcA m o k).toNat = m 144 (srcA m o k).toNat := (h.2.1 _ (by omega)).1
        rw [kk]
        exact Or.inr ⟨by omega, s2, by omega⟩
section GB
variable {S : Nat × (Nat → Int32)} {n : Nat} {mem : MM} {K : Int → MM → Prop}
theorem f_239e (h : RefOK mem) (H : ∀ r m', RefOK m' → FrQ mem m' → m' 143 0 = 0 → (r = 0 ∨ r = 1) → (r = 1 ↔ SoundM mem) → K r m') : CWI (Ex S (n + 3)) 239 [.inr 143] mem K := by
  have h' := h.th' (z := 0) (by omega)
  exact CW.of (k := 0) mt_239 rfl rfl (w_239_0 (Ex.mono S (n + 2)) (f_240 h'.ops (fun hS _ => ⟨Or.inr rfl, _, rfl, H 1 _ h' FrQ.th upm_eq (Or.inr rfl) ⟨fun _ => hS, fun _ => rfl⟩⟩) (fun hS _ => ⟨Or.inl rfl, _, rfl, H 0 _ h' FrQ.th upm_eq (Or.inl rfl) ⟨fun z => by omega, fun z => absurd z hS⟩⟩)))
end GB
theorem krf {m m' : MM} (hr : RefOK m) (hF : Frm pNb m m') : RefOK m' := hr.fr (fun A i a b => hF A i (by unfold pNb; omega))
theorem krb {m m' : MM} (hb : RelB m) (hF : Frm pNb m m') : RelB m' := hb.fr (fun A i q => hF A i (by unfold pNb; omega))
theorem qQ {m m' : MM} (hc : ClS m) (hb : RelB m) (hF : FrQ m m') : ClS m' ∧ RelB m' := ⟨hc.ref (fun A i q => hF A i (by unfold pRf at q; omega)), hb.fr (fun A i q => hF A i (by omega))⟩
def Hf8 (y : Int) (m : MM) : Prop := ClS m ∧ RefOK m ∧ RelB m ∧ (y = 0 ∨ y = 1) ∧ (y = 1 ↔ SndX m)
theorem cl8 {S : Nat × (Nat → Int32)} {n : Nat} {m : MM} (hc : ClS m) (hr : RefOK m) (hb : RelB m) : CQI (Ex S (n + 14)) 10 [.inr 0] m Hf8 (fun _ _ => False) :=
  f_10x hc (fun r m' c f a b => ⟨c, krf hr f, krb hb f, a, b⟩)
theorem rf8 {S : Nat × (Nat → Int32)} {n : Nat} {m : MM} {y : Int} (H : Hf8 y m) : CQI (Ex S (n + 3)) 239 [.inr 143] m (fun r m2 => ClS m2 ∧ RefOK m2 ∧ RelB m2 ∧ r = y) (fun _ _ => False) := by
  obtain ⟨hc, hr, hb, a, b⟩ := H
  have hs := hb.snd hr
  refine CWI.q (Ex.mono S (n + 3)) (f_239e hr (fun r m' r1 f1 t1 a1 b1 => ⟨(qQ hc hb f1).1, r1, (qQ hc hb f1).2, ?_⟩))
  rw [hs, ← b1] at b
  omega
end
