/-! laid by wip/hand/lw.py: cases of the law -/
theorem te_368_1954 : (pT M_368).find? (fun e => e.1 == 1954) = some (1954, .aload_n 1, 0, 0) := (sk_101 1954 rfl).trans rfl
theorem te_368_1955 : (pT M_368).find? (fun e => e.1 == 1955) = some (1955, .aload_n 0, 0, 0) := (sk_101 1955 rfl).trans rfl
theorem te_368_1956 : (pT M_368).find? (fun e => e.1 == 1956) = some (1956, .iload 4, 0, 0) := (sk_101 1956 rfl).trans rfl
theorem te_368_1958 : (pT M_368).find? (fun e => e.1 == 1958) = some (1958, .iconst 1, 0, 0) := (sk_101 1958 rfl).trans rfl
theorem te_368_1959 : (pT M_368).find? (fun e => e.1 == 1959) = some (1959, .iadd, 0, 0) := (sk_101 1959 rfl).trans rfl
theorem te_368_1960 : (pT M_368).find? (fun e => e.1 == 1960) = some (1960, .iaload, 0, 0) := (sk_101 1960 rfl).trans rfl
theorem te_368_1961 : (pT M_368).find? (fun e => e.1 == 1961) = some (1961, .aload_n 0, 0, 0) := (sk_101 1961 rfl).trans rfl
theorem te_368_1962 : (pT M_368).find? (fun e => e.1 == 1962) = some (1962, .iload 4, 0, 0) := (sk_101 1962 rfl).trans rfl
theorem te_368_1964 : (pT M_368).find? (fun e => e.1 == 1964) = some (1964, .iconst 2, 0, 0) := (sk_101 1964 rfl).trans rfl
theorem te_368_1965 : (pT M_368).find? (fun e => e.1 == 1965) = some (1965, .iadd, 0, 0) := (sk_101 1965 rfl).trans rfl
theorem te_368_1966 : (pT M_368).find? (fun e => e.1 == 1966) = some (1966, .iaload, 0, 0) := (sk_101 1966 rfl).trans rfl
theorem te_368_1967 : (pT M_368).find? (fun e => e.1 == 1967) = some (1967, .aload_n 3, 0, 0) := (sk_102 1967 rfl).trans rfl
theorem te_368_1968 : (pT M_368).find? (fun e => e.1 == 1968) = some (1968, .invokestatic 312, 200, 8) := (sk_102 1968 rfl).trans rfl
theorem te_368_1971 : (pT M_368).find? (fun e => e.1 == 1971) = some (1971, .istore 5, 0, 0) := (sk_102 1971 rfl).trans rfl
theorem te_368_1973 : (pT M_368).find? (fun e => e.1 == 1973) = some (1973, .aload_n 2, 0, 0) := (sk_102 1973 rfl).trans rfl
theorem te_368_1974 : (pT M_368).find? (fun e => e.1 == 1974) = some (1974, .aload_n 0, 0, 0) := (sk_102 1974 rfl).trans rfl
theorem te_368_1975 : (pT M_368).find? (fun e => e.1 == 1975) = some (1975, .iload 4, 0, 0) := (sk_102 1975 rfl).trans rfl
theorem te_368_1977 : (pT M_368).find? (fun e => e.1 == 1977) = some (1977, .iconst 1, 0, 0) := (sk_102 1977 rfl).trans rfl
theorem te_368_1978 : (pT M_368).find? (fun e => e.1 == 1978) = some (1978, .iadd, 0, 0) := (sk_102 1978 rfl).trans rfl
theorem te_368_1979 : (pT M_368).find? (fun e => e.1 == 1979) = some (1979, .iaload, 0, 0) := (sk_102 1979 rfl).trans rfl
theorem te_368_1980 : (pT M_368).find? (fun e => e.1 == 1980) = some (1980, .aload_n 0, 0, 0) := (sk_102 1980 rfl).trans rfl
theorem te_368_1981 : (pT M_368).find? (fun e => e.1 == 1981) = some (1981, .iload 4, 0, 0) := (sk_102 1981 rfl).trans rfl
theorem te_368_1983 : (pT M_368).find? (fun e => e.1 == 1983) = some (1983, .iconst 2, 0, 0) := (sk_102 1983 rfl).trans rfl
theorem te_368_1984 : (pT M_368).find? (fun e => e.1 == 1984) = some (1984, .iadd, 0, 0) := (sk_103 1984 rfl).trans rfl
theorem te_368_1985 : (pT M_368).find? (fun e => e.1 == 1985) = some (1985, .iaload, 0, 0) := (sk_103 1985 rfl).trans rfl
theorem te_368_1986 : (pT M_368).find? (fun e => e.1 == 1986) = some (1986, .invokevirtual 314, 356, 0) := (sk_103 1986 rfl).trans rfl
theorem te_368_1989 : (pT M_368).find? (fun e => e.1 == 1989) = some (1989, .istore 6, 0, 0) := (sk_103 1989 rfl).trans rfl
theorem te_368_1991 : (pT M_368).find? (fun e => e.1 == 1991) = some (1991, .goto 336, 0, 0) := (sk_103 1991 rfl).trans rfl
theorem te_368_1994 : (pT M_368).find? (fun e => e.1 == 1994) = some (1994, .aload_n 1, 0, 0) := (sk_103 1994 rfl).trans rfl
theorem te_368_1995 : (pT M_368).find? (fun e => e.1 == 1995) = some (1995, .aload_n 0, 0, 0) := (sk_103 1995 rfl).trans rfl
theorem te_368_1996 : (pT M_368).find? (fun e => e.1 == 1996) = some (1996, .iload 4, 0, 0) := (sk_103 1996 rfl).trans rfl
theorem te_368_1998 : (pT M_368).find? (fun e => e.1 == 1998) = some (1998, .iconst 1, 0, 0) := (sk_103 1998 rfl).trans rfl
theorem te_368_1999 : (pT M_368).find? (fun e => e.1 == 1999) = some (1999, .iadd, 0, 0) := (sk_103 1999 rfl).trans rfl
theorem te_368_2000 : (pT M_368).find? (fun e => e.1 == 2000) = some (2000, .iaload, 0, 0) := (sk_103 2000 rfl).trans rfl
theorem te_368_2001 : (pT M_368).find? (fun e => e.1 == 2001) = some (2001, .aload_n 0, 0, 0) := (sk_103 2001 rfl).trans rfl
theorem te_368_2002 : (pT M_368).find? (fun e => e.1 == 2002) = some (2002, .iload 4, 0, 0) := (sk_104 2002 rfl).trans rfl
theorem te_368_2004 : (pT M_368).find? (fun e => e.1 == 2004) = some (2004, .iconst 2, 0, 0) := (sk_104 2004 rfl).trans rfl
theorem te_368_2005 : (pT M_368).find? (fun e => e.1 == 2005) = some (2005, .iadd, 0, 0) := (sk_104 2005 rfl).trans rfl
theorem te_368_2006 : (pT M_368).find? (fun e => e.1 == 2006) = some (2006, .iaload, 0, 0) := (sk_104 2006 rfl).trans rfl
theorem te_368_2007 : (pT M_368).find? (fun e => e.1 == 2007) = some (2007, .aload_n 0, 0, 0) := (sk_104 2007 rfl).trans rfl
theorem te_368_2008 : (pT M_368).find? (fun e => e.1 == 2008) = some (2008, .iload 4, 0, 0) := (sk_104 2008 rfl).trans rfl
theorem te_368_2010 : (pT M_368).find? (fun e => e.1 == 2010) = some (2010, .iconst 3, 0, 0) := (sk_104 2010 rfl).trans rfl
theorem te_368_2011 : (pT M_368).find? (fun e => e.1 == 2011) = some (2011, .iadd, 0, 0) := (sk_104 2011 rfl).trans rfl
theorem te_368_2012 : (pT M_368).find? (fun e => e.1 == 2012) = some (2012, .iaload, 0, 0) := (sk_104 2012 rfl).trans rfl
theorem te_368_2013 : (pT M_368).find? (fun e => e.1 == 2013) = some (2013, .ifCond .eq 7, 0, 0) := (sk_104 2013 rfl).trans rfl
theorem te_368_2016 : (pT M_368).find? (fun e => e.1 == 2016) = some (2016, .iconst 1, 0, 0) := (sk_104 2016 rfl).trans rfl
theorem te_368_2017 : (pT M_368).find? (fun e => e.1 == 2017) = some (2017, .goto 4, 0, 0) := (sk_104 2017 rfl).trans rfl
theorem te_368_2020 : (pT M_368).find? (fun e => e.1 == 2020) = some (2020, .iconst 0, 0, 0) := (sk_105 2020 rfl).trans rfl
theorem te_368_2021 : (pT M_368).find? (fun e => e.1 == 2021) = some (2021, .aload_n 3, 0, 0) := (sk_105 2021 rfl).trans rfl
theorem te_368_2022 : (pT M_368).find? (fun e => e.1 == 2022) = some (2022, .invokestatic 315, 202, 8) := (sk_105 2022 rfl).trans rfl
theorem te_368_2025 : (pT M_368).find? (fun e => e.1 == 2025) = some (2025, .istore 5, 0, 0) := (sk_105 2025 rfl).trans rfl
theorem te_368_2027 : (pT M_368).find? (fun e => e.1 == 2027) = some (2027, .aload_n 2, 0, 0) := (sk_105 2027 rfl).trans rfl
theorem te_368_2028 : (pT M_368).find? (fun e => e.1 == 2028) = some (2028, .aload_n 0, 0, 0) := (sk_105 2028 rfl).trans rfl
theorem te_368_2029 : (pT M_368).find? (fun e => e.1 == 2029) = some (2029, .iload 4, 0, 0) := (sk_105 2029 rfl).trans rfl
theorem te_368_2031 : (pT M_368).find? (fun e => e.1 == 2031) = some (2031, .iconst 1, 0, 0) := (sk_105 2031 rfl).trans rfl
theorem te_368_2032 : (pT M_368).find? (fun e => e.1 == 2032) = some (2032, .iadd, 0, 0) := (sk_105 2032 rfl).trans rfl
theorem te_368_2033 : (pT M_368).find? (fun e => e.1 == 2033) = some (2033, .iaload, 0, 0) := (sk_105 2033 rfl).trans rfl
theorem te_368_2034 : (pT M_368).find? (fun e => e.1 == 2034) = some (2034, .aload_n 0, 0, 0) := (sk_105 2034 rfl).trans rfl
theorem te_368_2035 : (pT M_368).find? (fun e => e.1 == 2035) = some (2035, .iload 4, 0, 0) := (sk_105 2035 rfl).trans rfl
theorem te_368_2037 : (pT M_368).find? (fun e => e.1 == 2037) = some (2037, .iconst 2, 0, 0) := (sk_106 2037 rfl).trans rfl
theorem te_368_2038 : (pT M_368).find? (fun e => e.1 == 2038) = some (2038, .iadd, 0, 0) := (sk_106 2038 rfl).trans rfl
theorem te_368_2039 : (pT M_368).find? (fun e => e.1 == 2039) = some (2039, .iaload, 0, 0) := (sk_106 2039 rfl).trans rfl
theorem te_368_2040 : (pT M_368).find? (fun e => e.1 == 2040) = some (2040, .aload_n 0, 0, 0) := (sk_106 2040 rfl).trans rfl
theorem te_368_2041 : (pT M_368).find? (fun e => e.1 == 2041) = some (2041, .iload 4, 0, 0) := (sk_106 2041 rfl).trans rfl
theorem te_368_2043 : (pT M_368).find? (fun e => e.1 == 2043) = some (2043, .iconst 3, 0, 0) := (sk_106 2043 rfl).trans rfl
theorem te_368_2044 : (pT M_368).find? (fun e => e.1 == 2044) = some (2044, .iadd, 0, 0) := (sk_106 2044 rfl).trans rfl
theorem te_368_2045 : (pT M_368).find? (fun e => e.1 == 2045) = some (2045, .iaload, 0, 0) := (sk_106 2045 rfl).trans rfl
theorem te_368_2046 : (pT M_368).find? (fun e => e.1 == 2046) = some (2046, .ifCond .eq 7, 0, 0) := (sk_106 2046 rfl).trans rfl
theorem te_368_2049 : (pT M_368).find? (fun e => e.1 == 2049) = some (2049, .iconst 1, 0, 0) := (sk_106 2049 rfl).trans rfl
theorem te_368_2050 : (pT M_368).find? (fun e => e.1 == 2050) = some (2050, .goto 4, 0, 0) := (sk_106 2050 rfl).trans rfl
theorem te_368_2053 : (pT M_368).find? (fun e => e.1 == 2053) = some (2053, .iconst 0, 0, 0) := (sk_106 2053 rfl).trans rfl
theorem te_368_2054 : (pT M_368).find? (fun e => e.1 == 2054) = some (2054, .invokevirtual 317, 359, 0) := (sk_107 2054 rfl).trans rfl
theorem te_368_2057 : (pT M_368).find? (fun e => e.1 == 2057) = some (2057, .istore 6, 0, 0) := (sk_107 2057 rfl).trans rfl
theorem te_368_2059 : (pT M_368).find? (fun e => e.1 == 2059) = some (2059, .goto 268, 0, 0) := (sk_107 2059 rfl).trans rfl
theorem te_368_2062 : (pT M_368).find? (fun e => e.1 == 2062) = some (2062, .aload_n 1, 0, 0) := (sk_107 2062 rfl).trans rfl
theorem te_368_2063 : (pT M_368).find? (fun e => e.1 == 2063) = some (2063, .aload_n 0, 0, 0) := (sk_107 2063 rfl).trans rfl
theorem te_368_2064 : (pT M_368).find? (fun e => e.1 == 2064) = some (2064, .iload 4, 0, 0) := (sk_107 2064 rfl).trans rfl
theorem te_368_2066 : (pT M_368).find? (fun e => e.1 == 2066) = some (2066, .iconst 1, 0, 0) := (sk_107 2066 rfl).trans rfl
theorem te_368_2067 : (pT M_368).find? (fun e => e.1 == 2067) = some (2067, .iadd, 0, 0) := (sk_107 2067 rfl).trans rfl
theorem te_368_2068 : (pT M_368).find? (fun e => e.1 == 2068) = some (2068, .iaload, 0, 0) := (sk_107 2068 rfl).trans rfl
theorem te_368_2069 : (pT M_368).find? (fun e => e.1 == 2069) = some (2069, .aload_n 0, 0, 0) := (sk_107 2069 rfl).trans rfl
theorem te_368_2070 : (pT M_368).find? (fun e => e.1 == 2070) = some (2070, .iload 4, 0, 0) := (sk_107 2070 rfl).trans rfl
theorem te_368_2072 : (pT M_368).find? (fun e => e.1 == 2072) = some (2072, .iconst 2, 0, 0) := (sk_107 2072 rfl).trans rfl
theorem te_368_2073 : (pT M_368).find? (fun e => e.1 == 2073) = some (2073, .iadd, 0, 0) := (sk_108 2073 rfl).trans rfl
theorem te_368_2074 : (pT M_368).find? (fun e => e.1 == 2074) = some (2074, .iaload, 0, 0) := (sk_108 2074 rfl).trans rfl
theorem te_368_2075 : (pT M_368).find? (fun e => e.1 == 2075) = some (2075, .aload_n 0, 0, 0) := (sk_108 2075 rfl).trans rfl
theorem te_368_2076 : (pT M_368).find? (fun e => e.1 == 2076) = some (2076, .iload 4, 0, 0) := (sk_108 2076 rfl).trans rfl
theorem te_368_2078 : (pT M_368).find? (fun e => e.1 == 2078) = some (2078, .iconst 3, 0, 0) := (sk_108 2078 rfl).trans rfl
theorem te_368_2079 : (pT M_368).find? (fun e => e.1 == 2079) = some (2079, .iadd, 0, 0) := (sk_108 2079 rfl).trans rfl
theorem te_368_2080 : (pT M_368).find? (fun e => e.1 == 2080) = some (2080, .iaload, 0, 0) := (sk_108 2080 rfl).trans rfl
theorem te_368_2081 : (pT M_368).find? (fun e => e.1 == 2081) = some (2081, .aload_n 3, 0, 0) := (sk_108 2081 rfl).trans rfl
theorem te_368_2082 : (pT M_368).find? (fun e => e.1 == 2082) = some (2082, .invokestatic 318, 206, 8) := (sk_108 2082 rfl).trans rfl
theorem te_368_2085 : (pT M_368).find? (fun e => e.1 == 2085) = some (2085, .istore 5, 0, 0) := (sk_108 2085 rfl).trans rfl
theorem te_368_2087 : (pT M_368).find? (fun e => e.1 == 2087) = some (2087, .aload_n 2, 0, 0) := (sk_108 2087 rfl).trans rfl
theorem te_368_2088 : (pT M_368).find? (fun e => e.1 == 2088) = some (2088, .aload_n 0, 0, 0) := (sk_108 2088 rfl).trans rfl
theorem te_368_2089 : (pT M_368).find? (fun e => e.1 == 2089) = some (2089, .iload 4, 0, 0) := (sk_109 2089 rfl).trans rfl
theorem te_368_2091 : (pT M_368).find? (fun e => e.1 == 2091) = some (2091, .iconst 1, 0, 0) := (sk_109 2091 rfl).trans rfl
theorem te_368_2092 : (pT M_368).find? (fun e => e.1 == 2092) = some (2092, .iadd, 0, 0) := (sk_109 2092 rfl).trans rfl
theorem te_368_2093 : (pT M_368).find? (fun e => e.1 == 2093) = some (2093, .iaload, 0, 0) := (sk_109 2093 rfl).trans rfl
theorem te_368_2094 : (pT M_368).find? (fun e => e.1 == 2094) = some (2094, .aload_n 0, 0, 0) := (sk_109 2094 rfl).trans rfl
theorem te_368_2095 : (pT M_368).find? (fun e => e.1 == 2095) = some (2095, .iload 4, 0, 0) := (sk_109 2095 rfl).trans rfl
theorem te_368_2097 : (pT M_368).find? (fun e => e.1 == 2097) = some (2097, .iconst 2, 0, 0) := (sk_109 2097 rfl).trans rfl
theorem te_368_2098 : (pT M_368).find? (fun e => e.1 == 2098) = some (2098, .iadd, 0, 0) := (sk_109 2098 rfl).trans rfl
theorem te_368_2099 : (pT M_368).find? (fun e => e.1 == 2099) = some (2099, .iaload, 0, 0) := (sk_109 2099 rfl).trans rfl
theorem te_368_2100 : (pT M_368).find? (fun e => e.1 == 2100) = some (2100, .aload_n 0, 0, 0) := (sk_109 2100 rfl).trans rfl
theorem te_368_2101 : (pT M_368).find? (fun e => e.1 == 2101) = some (2101, .iload 4, 0, 0) := (sk_109 2101 rfl).trans rfl
theorem te_368_2103 : (pT M_368).find? (fun e => e.1 == 2103) = some (2103, .iconst 3, 0, 0) := (sk_109 2103 rfl).trans rfl
theorem te_368_2104 : (pT M_368).find? (fun e => e.1 == 2104) = some (2104, .iadd, 0, 0) := (sk_110 2104 rfl).trans rfl
theorem te_368_2105 : (pT M_368).find? (fun e => e.1 == 2105) = some (2105, .iaload, 0, 0) := (sk_110 2105 rfl).trans rfl
theorem te_368_2106 : (pT M_368).find? (fun e => e.1 == 2106) = some (2106, .invokevirtual 320, 361, 0) := (sk_110 2106 rfl).trans rfl
theorem te_368_2109 : (pT M_368).find? (fun e => e.1 == 2109) = some (2109, .istore 6, 0, 0) := (sk_110 2109 rfl).trans rfl
theorem te_368_2111 : (pT M_368).find? (fun e => e.1 == 2111) = some (2111, .goto 216, 0, 0) := (sk_110 2111 rfl).trans rfl
theorem te_368_2114 : (pT M_368).find? (fun e => e.1 == 2114) = some (2114, .aload_n 1, 0, 0) := (sk_110 2114 rfl).trans rfl
theorem te_368_2115 : (pT M_368).find? (fun e => e.1 == 2115) = some (2115, .aload_n 0, 0, 0) := (sk_110 2115 rfl).trans rfl
theorem te_368_2116 : (pT M_368).find? (fun e => e.1 == 2116) = some (2116, .iload 4, 0, 0) := (sk_110 2116 rfl).trans rfl
theorem te_368_2118 : (pT M_368).find? (fun e => e.1 == 2118) = some (2118, .iconst 1, 0, 0) := (sk_110 2118 rfl).trans rfl
theorem te_368_2119 : (pT M_368).find? (fun e => e.1 == 2119) = some (2119, .iadd, 0, 0) := (sk_110 2119 rfl).trans rfl
theorem te_368_2120 : (pT M_368).find? (fun e => e.1 == 2120) = some (2120, .iaload, 0, 0) := (sk_110 2120 rfl).trans rfl
theorem te_368_2121 : (pT M_368).find? (fun e => e.1 == 2121) = some (2121, .aload_n 0, 0, 0) := (sk_110 2121 rfl).trans rfl
theorem te_368_2122 : (pT M_368).find? (fun e => e.1 == 2122) = some (2122, .iload 4, 0, 0) := (sk_111 2122 rfl).trans rfl
theorem te_368_2124 : (pT M_368).find? (fun e => e.1 == 2124) = some (2124, .iconst 2, 0, 0) := (sk_111 2124 rfl).trans rfl
theorem te_368_2125 : (pT M_368).find? (fun e => e.1 == 2125) = some (2125, .iadd, 0, 0) := (sk_111 2125 rfl).trans rfl
theorem te_368_2126 : (pT M_368).find? (fun e => e.1 == 2126) = some (2126, .iaload, 0, 0) := (sk_111 2126 rfl).trans rfl
theorem te_368_2127 : (pT M_368).find? (fun e => e.1 == 2127) = some (2127, .aload_n 3, 0, 0) := (sk_111 2127 rfl).trans rfl
theorem te_368_2128 : (pT M_368).find? (fun e => e.1 == 2128) = some (2128, .invokestatic 321, 209, 8) := (sk_111 2128 rfl).trans rfl
theorem te_368_2131 : (pT M_368).find? (fun e => e.1 == 2131) = some (2131, .istore 5, 0, 0) := (sk_111 2131 rfl).trans rfl
theorem te_368_2133 : (pT M_368).find? (fun e => e.1 == 2133) = some (2133, .aload_n 2, 0, 0) := (sk_111 2133 rfl).trans rfl
theorem te_368_2134 : (pT M_368).find? (fun e => e.1 == 2134) = some (2134, .aload_n 0, 0, 0) := (sk_111 2134 rfl).trans rfl
theorem te_368_2135 : (pT M_368).find? (fun e => e.1 == 2135) = some (2135, .iload 4, 0, 0) := (sk_111 2135 rfl).trans rfl
theorem te_368_2137 : (pT M_368).find? (fun e => e.1 == 2137) = some (2137, .iconst 1, 0, 0) := (sk_111 2137 rfl).trans rfl
theorem te_368_2138 : (pT M_368).find? (fun e => e.1 == 2138) = some (2138, .iadd, 0, 0) := (sk_111 2138 rfl).trans rfl
theorem te_368_2139 : (pT M_368).find? (fun e => e.1 == 2139) = some (2139, .iaload, 0, 0) := (sk_112 2139 rfl).trans rfl
theorem te_368_2140 : (pT M_368).find? (fun e => e.1 == 2140) = some (2140, .aload_n 0, 0, 0) := (sk_112 2140 rfl).trans rfl
theorem te_368_2141 : (pT M_368).find? (fun e => e.1 == 2141) = some (2141, .iload 4, 0, 0) := (sk_112 2141 rfl).trans rfl
theorem te_368_2143 : (pT M_368).find? (fun e => e.1 == 2143) = some (2143, .iconst 2, 0, 0) := (sk_112 2143 rfl).trans rfl
theorem te_368_2144 : (pT M_368).find? (fun e => e.1 == 2144) = some (2144, .iadd, 0, 0) := (sk_112 2144 rfl).trans rfl
theorem te_368_2145 : (pT M_368).find? (fun e => e.1 == 2145) = some (2145, .iaload, 0, 0) := (sk_112 2145 rfl).trans rfl
theorem te_368_2146 : (pT M_368).find? (fun e => e.1 == 2146) = some (2146, .invokevirtual 323, 362, 0) := (sk_112 2146 rfl).trans rfl
theorem te_368_2149 : (pT M_368).find? (fun e => e.1 == 2149) = some (2149, .istore 6, 0, 0) := (sk_112 2149 rfl).trans rfl
theorem te_368_2151 : (pT M_368).find? (fun e => e.1 == 2151) = some (2151, .goto 176, 0, 0) := (sk_112 2151 rfl).trans rfl
theorem te_368_2154 : (pT M_368).find? (fun e => e.1 == 2154) = some (2154, .aload_n 1, 0, 0) := (sk_112 2154 rfl).trans rfl
theorem te_368_2155 : (pT M_368).find? (fun e => e.1 == 2155) = some (2155, .aload_n 0, 0, 0) := (sk_112 2155 rfl).trans rfl
theorem te_368_2156 : (pT M_368).find? (fun e => e.1 == 2156) = some (2156, .iload 4, 0, 0) := (sk_112 2156 rfl).trans rfl
theorem te_368_2158 : (pT M_368).find? (fun e => e.1 == 2158) = some (2158, .iconst 1, 0, 0) := (sk_113 2158 rfl).trans rfl
theorem te_368_2159 : (pT M_368).find? (fun e => e.1 == 2159) = some (2159, .iadd, 0, 0) := (sk_113 2159 rfl).trans rfl
theorem te_368_2160 : (pT M_368).find? (fun e => e.1 == 2160) = some (2160, .iaload, 0, 0) := (sk_113 2160 rfl).trans rfl
theorem te_368_2161 : (pT M_368).find? (fun e => e.1 == 2161) = some (2161, .aload_n 0, 0, 0) := (sk_113 2161 rfl).trans rfl
theorem te_368_2162 : (pT M_368).find? (fun e => e.1 == 2162) = some (2162, .iload 4, 0, 0) := (sk_113 2162 rfl).trans rfl
theorem te_368_2164 : (pT M_368).find? (fun e => e.1 == 2164) = some (2164, .iconst 2, 0, 0) := (sk_113 2164 rfl).trans rfl
theorem te_368_2165 : (pT M_368).find? (fun e => e.1 == 2165) = some (2165, .iadd, 0, 0) := (sk_113 2165 rfl).trans rfl
theorem te_368_2166 : (pT M_368).find? (fun e => e.1 == 2166) = some (2166, .iaload, 0, 0) := (sk_113 2166 rfl).trans rfl
theorem te_368_2167 : (pT M_368).find? (fun e => e.1 == 2167) = some (2167, .aload_n 0, 0, 0) := (sk_113 2167 rfl).trans rfl
theorem te_368_2168 : (pT M_368).find? (fun e => e.1 == 2168) = some (2168, .iload 4, 0, 0) := (sk_113 2168 rfl).trans rfl
theorem te_368_2170 : (pT M_368).find? (fun e => e.1 == 2170) = some (2170, .iconst 3, 0, 0) := (sk_113 2170 rfl).trans rfl
theorem te_368_2171 : (pT M_368).find? (fun e => e.1 == 2171) = some (2171, .iadd, 0, 0) := (sk_113 2171 rfl).trans rfl
theorem te_368_2172 : (pT M_368).find? (fun e => e.1 == 2172) = some (2172, .iaload, 0, 0) := (sk_114 2172 rfl).trans rfl
theorem te_368_2173 : (pT M_368).find? (fun e => e.1 == 2173) = some (2173, .aload_n 0, 0, 0) := (sk_114 2173 rfl).trans rfl
theorem te_368_2174 : (pT M_368).find? (fun e => e.1 == 2174) = some (2174, .iload 4, 0, 0) := (sk_114 2174 rfl).trans rfl
theorem te_368_2176 : (pT M_368).find? (fun e => e.1 == 2176) = some (2176, .iconst 4, 0, 0) := (sk_114 2176 rfl).trans rfl
theorem te_368_2177 : (pT M_368).find? (fun e => e.1 == 2177) = some (2177, .iadd, 0, 0) := (sk_114 2177 rfl).trans rfl
theorem te_368_2178 : (pT M_368).find? (fun e => e.1 == 2178) = some (2178, .iaload, 0, 0) := (sk_114 2178 rfl).trans rfl
theorem te_368_2179 : (pT M_368).find? (fun e => e.1 == 2179) = some (2179, .aload_n 3, 0, 0) := (sk_114 2179 rfl).trans rfl
theorem te_368_2180 : (pT M_368).find? (fun e => e.1 == 2180) = some (2180, .invokestatic 324, 213, 8) := (sk_114 2180 rfl).trans rfl
theorem te_368_2183 : (pT M_368).find? (fun e => e.1 == 2183) = some (2183, .istore 5, 0, 0) := (sk_114 2183 rfl).trans rfl
theorem te_368_2185 : (pT M_368).find? (fun e => e.1 == 2185) = some (2185, .aload_n 2, 0, 0) := (sk_114 2185 rfl).trans rfl
theorem te_368_2186 : (pT M_368).find? (fun e => e.1 == 2186) = some (2186, .aload_n 0, 0, 0) := (sk_114 2186 rfl).trans rfl
theorem te_368_2187 : (pT M_368).find? (fun e => e.1 == 2187) = some (2187, .iload 4, 0, 0) := (sk_114 2187 rfl).trans rfl
theorem te_368_2189 : (pT M_368).find? (fun e => e.1 == 2189) = some (2189, .iconst 1, 0, 0) := (sk_115 2189 rfl).trans rfl
theorem te_368_2190 : (pT M_368).find? (fun e => e.1 == 2190) = some (2190, .iadd, 0, 0) := (sk_115 2190 rfl).trans rfl
theorem te_368_2191 : (pT M_368).find? (fun e => e.1 == 2191) = some (2191, .iaload, 0, 0) := (sk_115 2191 rfl).trans rfl
theorem te_368_2192 : (pT M_368).find? (fun e => e.1 == 2192) = some (2192, .aload_n 0, 0, 0) := (sk_115 2192 rfl).trans rfl
theorem te_368_2193 : (pT M_368).find? (fun e => e.1 == 2193) = some (2193, .iload 4, 0, 0) := (sk_115 2193 rfl).trans rfl
theorem te_368_2195 : (pT M_368).find? (fun e => e.1 == 2195) = some (2195, .iconst 2, 0, 0) := (sk_115 2195 rfl).trans rfl
theorem te_368_2196 : (pT M_368).find? (fun e => e.1 == 2196) = some (2196, .iadd, 0, 0) := (sk_115 2196 rfl).trans rfl
theorem te_368_2197 : (pT M_368).find? (fun e => e.1 == 2197) = some (2197, .iaload, 0, 0) := (sk_115 2197 rfl).trans rfl
theorem te_368_2198 : (pT M_368).find? (fun e => e.1 == 2198) = some (2198, .aload_n 0, 0, 0) := (sk_115 2198 rfl).trans rfl
theorem te_368_2199 : (pT M_368).find? (fun e => e.1 == 2199) = some (2199, .iload 4, 0, 0) := (sk_115 2199 rfl).trans rfl
theorem te_368_2201 : (pT M_368).find? (fun e => e.1 == 2201) = some (2201, .iconst 3, 0, 0) := (sk_115 2201 rfl).trans rfl
theorem te_368_2202 : (pT M_368).find? (fun e => e.1 == 2202) = some (2202, .iadd, 0, 0) := (sk_115 2202 rfl).trans rfl
theorem te_368_2203 : (pT M_368).find? (fun e => e.1 == 2203) = some (2203, .iaload, 0, 0) := (sk_116 2203 rfl).trans rfl
theorem te_368_2204 : (pT M_368).find? (fun e => e.1 == 2204) = some (2204, .aload_n 0, 0, 0) := (sk_116 2204 rfl).trans rfl
theorem te_368_2205 : (pT M_368).find? (fun e => e.1 == 2205) = some (2205, .iload 4, 0, 0) := (sk_116 2205 rfl).trans rfl
theorem te_368_2207 : (pT M_368).find? (fun e => e.1 == 2207) = some (2207, .iconst 4, 0, 0) := (sk_116 2207 rfl).trans rfl
theorem te_368_2208 : (pT M_368).find? (fun e => e.1 == 2208) = some (2208, .iadd, 0, 0) := (sk_116 2208 rfl).trans rfl
theorem te_368_2209 : (pT M_368).find? (fun e => e.1 == 2209) = some (2209, .iaload, 0, 0) := (sk_116 2209 rfl).trans rfl
theorem te_368_2210 : (pT M_368).find? (fun e => e.1 == 2210) = some (2210, .invokevirtual 326, 364, 0) := (sk_116 2210 rfl).trans rfl
theorem te_368_2213 : (pT M_368).find? (fun e => e.1 == 2213) = some (2213, .istore 6, 0, 0) := (sk_116 2213 rfl).trans rfl
theorem te_368_2215 : (pT M_368).find? (fun e => e.1 == 2215) = some (2215, .goto 112, 0, 0) := (sk_116 2215 rfl).trans rfl
theorem te_368_2218 : (pT M_368).find? (fun e => e.1 == 2218) = some (2218, .aload_n 1, 0, 0) := (sk_116 2218 rfl).trans rfl
theorem te_368_2219 : (pT M_368).find? (fun e => e.1 == 2219) = some (2219, .aload_n 0, 0, 0) := (sk_116 2219 rfl).trans rfl
theorem te_368_2220 : (pT M_368).find? (fun e => e.1 == 2220) = some (2220, .iload 4, 0, 0) := (sk_116 2220 rfl).trans rfl
theorem te_368_2222 : (pT M_368).find? (fun e => e.1 == 2222) = some (2222, .iconst 1, 0, 0) := (sk_117 2222 rfl).trans rfl
theorem te_368_2223 : (pT M_368).find? (fun e => e.1 == 2223) = some (2223, .iadd, 0, 0) := (sk_117 2223 rfl).trans rfl
theorem te_368_2224 : (pT M_368).find? (fun e => e.1 == 2224) = some (2224, .iaload, 0, 0) := (sk_117 2224 rfl).trans rfl
theorem te_368_2225 : (pT M_368).find? (fun e => e.1 == 2225) = some (2225, .aload_n 3, 0, 0) := (sk_117 2225 rfl).trans rfl
theorem te_368_2226 : (pT M_368).find? (fun e => e.1 == 2226) = some (2226, .invokestatic 327, 218, 8) := (sk_117 2226 rfl).trans rfl
theorem te_368_2229 : (pT M_368).find? (fun e => e.1 == 2229) = some (2229, .istore 5, 0, 0) := (sk_117 2229 rfl).trans rfl
theorem te_368_2231 : (pT M_368).find? (fun e => e.1 == 2231) = some (2231, .aload_n 2, 0, 0) := (sk_117 2231 rfl).trans rfl
theorem te_368_2232 : (pT M_368).find? (fun e => e.1 == 2232) = some (2232, .aload_n 0, 0, 0) := (sk_117 2232 rfl).trans rfl
theorem te_368_2233 : (pT M_368).find? (fun e => e.1 == 2233) = some (2233, .iload 4, 0, 0) := (sk_117 2233 rfl).trans rfl
theorem te_368_2235 : (pT M_368).find? (fun e => e.1 == 2235) = some (2235, .iconst 1, 0, 0) := (sk_117 2235 rfl).trans rfl
theorem te_368_2236 : (pT M_368).find? (fun e => e.1 == 2236) = some (2236, .iadd, 0, 0) := (sk_117 2236 rfl).trans rfl
theorem te_368_2237 : (pT M_368).find? (fun e => e.1 == 2237) = some (2237, .iaload, 0, 0) := (sk_117 2237 rfl).trans rfl
theorem te_368_2238 : (pT M_368).find? (fun e => e.1 == 2238) = some (2238, .invokevirtual 329, 336, 0) := (sk_118 2238 rfl).trans rfl
theorem te_368_2241 : (pT M_368).find? (fun e => e.1 == 2241) = some (2241, .istore 6, 0, 0) := (sk_118 2241 rfl).trans rfl
theorem te_368_2243 : (pT M_368).find? (fun e => e.1 == 2243) = some (2243, .goto 84, 0, 0) := (sk_118 2243 rfl).trans rfl
theorem te_368_2246 : (pT M_368).find? (fun e => e.1 == 2246) = some (2246, .aload_n 1, 0, 0) := (sk_118 2246 rfl).trans rfl
theorem te_368_2247 : (pT M_368).find? (fun e => e.1 == 2247) = some (2247, .aload_n 0, 0, 0) := (sk_118 2247 rfl).trans rfl
theorem te_368_2248 : (pT M_368).find? (fun e => e.1 == 2248) = some (2248, .iload 4, 0, 0) := (sk_118 2248 rfl).trans rfl
theorem te_368_2250 : (pT M_368).find? (fun e => e.1 == 2250) = some (2250, .iconst 1, 0, 0) := (sk_118 2250 rfl).trans rfl
theorem te_368_2251 : (pT M_368).find? (fun e => e.1 == 2251) = some (2251, .iadd, 0, 0) := (sk_118 2251 rfl).trans rfl
theorem te_368_2252 : (pT M_368).find? (fun e => e.1 == 2252) = some (2252, .iaload, 0, 0) := (sk_118 2252 rfl).trans rfl
theorem te_368_2253 : (pT M_368).find? (fun e => e.1 == 2253) = some (2253, .aload_n 3, 0, 0) := (sk_118 2253 rfl).trans rfl
theorem te_368_2254 : (pT M_368).find? (fun e => e.1 == 2254) = some (2254, .invokestatic 330, 220, 8) := (sk_118 2254 rfl).trans rfl
theorem te_368_2257 : (pT M_368).find? (fun e => e.1 == 2257) = some (2257, .istore 5, 0, 0) := (sk_118 2257 rfl).trans rfl
theorem te_368_2259 : (pT M_368).find? (fun e => e.1 == 2259) = some (2259, .aload_n 2, 0, 0) := (sk_119 2259 rfl).trans rfl
theorem te_368_2260 : (pT M_368).find? (fun e => e.1 == 2260) = some (2260, .aload_n 0, 0, 0) := (sk_119 2260 rfl).trans rfl
theorem te_368_2261 : (pT M_368).find? (fun e => e.1 == 2261) = some (2261, .iload 4, 0, 0) := (sk_119 2261 rfl).trans rfl
theorem te_368_2263 : (pT M_368).find? (fun e => e.1 == 2263) = some (2263, .iconst 1, 0, 0) := (sk_119 2263 rfl).trans rfl
theorem te_368_2264 : (pT M_368).find? (fun e => e.1 == 2264) = some (2264, .iadd, 0, 0) := (sk_119 2264 rfl).trans rfl
theorem te_368_2265 : (pT M_368).find? (fun e => e.1 == 2265) = some (2265, .iaload, 0, 0) := (sk_119 2265 rfl).trans rfl
theorem te_368_2266 : (pT M_368).find? (fun e => e.1 == 2266) = some (2266, .invokevirtual 332, 357, 0) := (sk_119 2266 rfl).trans rfl
theorem te_368_2269 : (pT M_368).find? (fun e => e.1 == 2269) = some (2269, .istore 6, 0, 0) := (sk_119 2269 rfl).trans rfl
theorem te_368_2271 : (pT M_368).find? (fun e => e.1 == 2271) = some (2271, .goto 56, 0, 0) := (sk_119 2271 rfl).trans rfl
theorem te_368_2274 : (pT M_368).find? (fun e => e.1 == 2274) = some (2274, .aload_n 1, 0, 0) := (sk_119 2274 rfl).trans rfl
theorem te_368_2275 : (pT M_368).find? (fun e => e.1 == 2275) = some (2275, .aload_n 0, 0, 0) := (sk_119 2275 rfl).trans rfl
theorem te_368_2276 : (pT M_368).find? (fun e => e.1 == 2276) = some (2276, .iload 4, 0, 0) := (sk_119 2276 rfl).trans rfl
theorem te_368_2278 : (pT M_368).find? (fun e => e.1 == 2278) = some (2278, .iconst 1, 0, 0) := (sk_120 2278 rfl).trans rfl
theorem te_368_2279 : (pT M_368).find? (fun e => e.1 == 2279) = some (2279, .iadd, 0, 0) := (sk_120 2279 rfl).trans rfl
theorem te_368_2280 : (pT M_368).find? (fun e => e.1 == 2280) = some (2280, .iaload, 0, 0) := (sk_120 2280 rfl).trans rfl
theorem te_368_2281 : (pT M_368).find? (fun e => e.1 == 2281) = some (2281, .aload_n 3, 0, 0) := (sk_120 2281 rfl).trans rfl
theorem te_368_2282 : (pT M_368).find? (fun e => e.1 == 2282) = some (2282, .invokestatic 333, 222, 8) := (sk_120 2282 rfl).trans rfl
theorem te_368_2285 : (pT M_368).find? (fun e => e.1 == 2285) = some (2285, .istore 5, 0, 0) := (sk_120 2285 rfl).trans rfl
theorem te_368_2287 : (pT M_368).find? (fun e => e.1 == 2287) = some (2287, .aload_n 2, 0, 0) := (sk_120 2287 rfl).trans rfl
theorem te_368_2288 : (pT M_368).find? (fun e => e.1 == 2288) = some (2288, .aload_n 0, 0, 0) := (sk_120 2288 rfl).trans rfl
theorem te_368_2289 : (pT M_368).find? (fun e => e.1 == 2289) = some (2289, .iload 4, 0, 0) := (sk_120 2289 rfl).trans rfl
theorem te_368_2291 : (pT M_368).find? (fun e => e.1 == 2291) = some (2291, .iconst 1, 0, 0) := (sk_120 2291 rfl).trans rfl
theorem te_368_2292 : (pT M_368).find? (fun e => e.1 == 2292) = some (2292, .iadd, 0, 0) := (sk_120 2292 rfl).trans rfl
theorem te_368_2293 : (pT M_368).find? (fun e => e.1 == 2293) = some (2293, .iaload, 0, 0) := (sk_120 2293 rfl).trans rfl
theorem te_368_2294 : (pT M_368).find? (fun e => e.1 == 2294) = some (2294, .invokevirtual 335, 358, 0) := (sk_121 2294 rfl).trans rfl
theorem te_368_2297 : (pT M_368).find? (fun e => e.1 == 2297) = some (2297, .istore 6, 0, 0) := (sk_121 2297 rfl).trans rfl
theorem te_368_2299 : (pT M_368).find? (fun e => e.1 == 2299) = some (2299, .goto 28, 0, 0) := (sk_121 2299 rfl).trans rfl
theorem te_368_2302 : (pT M_368).find? (fun e => e.1 == 2302) = some (2302, .aload_n 1, 0, 0) := (sk_121 2302 rfl).trans rfl
theorem te_368_2303 : (pT M_368).find? (fun e => e.1 == 2303) = some (2303, .aload_n 0, 0, 0) := (sk_121 2303 rfl).trans rfl
theorem te_368_2304 : (pT M_368).find? (fun e => e.1 == 2304) = some (2304, .iload 4, 0, 0) := (sk_121 2304 rfl).trans rfl
theorem te_368_2306 : (pT M_368).find? (fun e => e.1 == 2306) = some (2306, .iconst 1, 0, 0) := (sk_121 2306 rfl).trans rfl
theorem te_368_2307 : (pT M_368).find? (fun e => e.1 == 2307) = some (2307, .iadd, 0, 0) := (sk_121 2307 rfl).trans rfl
theorem te_368_2308 : (pT M_368).find? (fun e => e.1 == 2308) = some (2308, .iaload, 0, 0) := (sk_121 2308 rfl).trans rfl
theorem te_368_2309 : (pT M_368).find? (fun e => e.1 == 2309) = some (2309, .invokevirtual 336, 31, 0) := (sk_121 2309 rfl).trans rfl
theorem te_368_2312 : (pT M_368).find? (fun e => e.1 == 2312) = some (2312, .pop, 0, 0) := (sk_121 2312 rfl).trans rfl
theorem te_368_2313 : (pT M_368).find? (fun e => e.1 == 2313) = some (2313, .aload_n 2, 0, 0) := (sk_121 2313 rfl).trans rfl
theorem te_368_2314 : (pT M_368).find? (fun e => e.1 == 2314) = some (2314, .aload_n 0, 0, 0) := (sk_122 2314 rfl).trans rfl
theorem te_368_2315 : (pT M_368).find? (fun e => e.1 == 2315) = some (2315, .iload 4, 0, 0) := (sk_122 2315 rfl).trans rfl
theorem te_368_2317 : (pT M_368).find? (fun e => e.1 == 2317) = some (2317, .iconst 1, 0, 0) := (sk_122 2317 rfl).trans rfl
theorem te_368_2318 : (pT M_368).find? (fun e => e.1 == 2318) = some (2318, .iadd, 0, 0) := (sk_122 2318 rfl).trans rfl
theorem te_368_2319 : (pT M_368).find? (fun e => e.1 == 2319) = some (2319, .iaload, 0, 0) := (sk_122 2319 rfl).trans rfl
theorem te_368_2320 : (pT M_368).find? (fun e => e.1 == 2320) = some (2320, .invokevirtual 339, 366, 0) := (sk_122 2320 rfl).trans rfl
theorem te_368_2323 : (pT M_368).find? (fun e => e.1 == 2323) = some (2323, .pop, 0, 0) := (sk_122 2323 rfl).trans rfl
theorem te_368_2324 : (pT M_368).find? (fun e => e.1 == 2324) = some (2324, .goto 3, 0, 0) := (sk_122 2324 rfl).trans rfl
theorem lc_40 {S : Nat × (Nat → Int32)} {lv : LV} {h : PH} {c s : Nat} {i : Int32} (hS : S.1 ≤ 3072) (hl : LwS lv i) (hi : 0 ≤ i.toInt ∧ i.toInt + 5 < S.1) (hL : LI h) (hc : c + 8 ≤ 601024) (hs : s + 48 ≤ 7293033) (Nx : ∀ lv' h' c' s', LwS lv' i → LI h' → c' ≤ c + 8 → s' ≤ s + 48 → Vx (Ex S 24) S M_368 [] Q1 2327 lv' [] h' c' s') : Vx (Ex S 24) S M_368 [] Q1 1954 lv [] h c s := by
  have hC := Ex.mono S 24
  refine Vx.go hC te_368_1954 ?_
  refine ⟨_, hl.2.1, ⟨0, Or.inl rfl⟩, ?_⟩
  refine sc_load hC (k := 1) hl te_368_1955 te_368_1956 te_368_1958 te_368_1959 te_368_1960 (sc_in hS hi (by decide)) ?_
  refine sc_load hC (k := 2) hl te_368_1961 te_368_1962 te_368_1964 te_368_1965 te_368_1966 (sc_in hS hi (by decide)) ?_
  refine Vx.go hC te_368_1967 ?_
  refine ⟨_, hl.2.2.2.1, ⟨173, Or.inl rfl⟩, ?_⟩
  refine Vx.go hC te_368_1968 ?_
  refine Or.inr ⟨by decide, ?_⟩
  refine p_call_mk (av := [.ref 0, .int (S.2 (i + Int32.ofInt 1).toNatClampNeg), .int (S.2 (i + Int32.ofInt 2).toNatClampNeg), .ref 173]) (rest := []) mt_200 rfl (by decide) (show c + 4 ≤ 601024 by omega) (show s + 24 ≤ 7293033 by omega) (fun q => by cases q) ?_
  refine g_200 (n := 6) hL (fun r3 h1 hL2 => ?_)
  show Vx (Ex S 24) S M_368 [] Q1 1971 lv [.int r3] h1 (c + 4) (s + 24)
  refine Vx.go hC te_368_1971 ?_
  refine ⟨by decide, ?_⟩
  have hl4 := LwS.st (j := 5) (v := .int r3) (by omega) hl
  show Vx (Ex S 24) S M_368 [] Q1 1973 (px_s1 lv 5 (.int r3)) [] h1 (c + 4) (s + 24)
  refine Vx.go hC te_368_1973 ?_
  refine ⟨_, hl4.2.2.1, ⟨143, Or.inl rfl⟩, ?_⟩
  refine sc_load hC (k := 1) hl4 te_368_1974 te_368_1975 te_368_1977 te_368_1978 te_368_1979 (sc_in hS hi (by decide)) ?_
  refine sc_load hC (k := 2) hl4 te_368_1980 te_368_1981 te_368_1983 te_368_1984 te_368_1985 (sc_in hS hi (by decide)) ?_
  refine Vx.go hC te_368_1986 ?_
  obtain ⟨gs8, gs8g⟩ := hL2.obj (A := 143) rfl
  have hcall9 := ref_call (S := S) (n := 24) (μ := 356) (args := [.inr 143, .inl ((S.2 (i + Int32.ofInt 1).toNatClampNeg) : Int32).toInt, .inl ((S.2 (i + Int32.ofInt 2).toNatClampNeg) : Int32).toInt]) (h := h1) (fun v hv => by simp only [List.mem_cons, List.not_mem_nil, or_false] at hv; rcases hv with rfl | rfl | rfl <;> first | trivial | exact wiI _) hL2 (fun mem hr => f_356 hr (fun r m' a b => ⟨a, b⟩))
  simp only [List.map_cons, List.map_nil, wv, Int32.ofInt_toInt] at hcall9
  refine p_call_mk (av := [.ref 143, .int (S.2 (i + Int32.ofInt 1).toNatClampNeg), .int (S.2 (i + Int32.ofInt 2).toNatClampNeg)]) (rest := []) mt_356 rfl (by decide) (show (c + 4) + 0 ≤ 601024 by omega) (show (s + 24) + 0 ≤ 7293033 by omega) (fun _ => ⟨143, gs8, rfl, gs8g⟩) ?_
  refine hC _ _ _ _ _ ?_ hcall9
  rintro _ h5 ⟨hL6, r7, rfl⟩
  show Vx (Ex S 24) S M_368 [] Q1 1989 (px_s1 lv 5 (.int r3)) [.int r7] h5 (c + 4) (s + 24)
  refine Vx.go hC te_368_1989 ?_
  refine ⟨by decide, ?_⟩
  have hl10 := LwS.st (j := 6) (v := .int r7) (by omega) hl4
  show Vx (Ex S 24) S M_368 [] Q1 1991 (px_s1 (px_s1 lv 5 (.int r3)) 6 (.int r7)) [] h5 (c + 4) (s + 24)
  refine Vx.go hC te_368_1991 ?_
  refine ⟨by decide, ?_⟩
  exact Nx _ _ _ _ hl10 hL6 (by omega) (by omega)
theorem lc_41 {S : Nat × (Nat → Int32)} {lv : LV} {h : PH} {c s : Nat} {i : Int32} (hS : S.1 ≤ 3072) (hl : LwS lv i) (hi : 0 ≤ i.toInt ∧ i.toInt + 5 < S.1) (hL : LI h) (hc : c + 8 ≤ 601024) (hs : s + 48 ≤ 7293033) (Nx : ∀ lv' h' c' s', LwS lv' i → LI h' → c' ≤ c + 8 → s' ≤ s + 48 → Vx (Ex S 24) S M_368 [] Q1 2327 lv' [] h' c' s') : Vx (Ex S 24) S M_368 [] Q1 1994 lv [] h c s := by
  have hC := Ex.mono S 24
  refine Vx.go hC te_368_1994 ?_
  refine ⟨_, hl.2.1, ⟨0, Or.inl rfl⟩, ?_⟩
  refine sc_load hC (k := 1) hl te_368_1995 te_368_1996 te_368_1998 te_368_1999 te_368_2000 (sc_in hS hi (by decide)) ?_
  refine sc_load hC (k := 2) hl te_368_2001 te_368_2002 te_368_2004 te_368_2005 te_368_2006 (sc_in hS hi (by decide)) ?_
  refine sc_load hC (k := 3) hl te_368_2007 te_368_2008 te_368_2010 te_368_2011 te_368_2012 (sc_in hS hi (by decide)) ?_
  refine Vx.go hC te_368_2013 ?_
  refine ⟨by decide, fun q => ?_, fun q => ?_⟩
  · show Vx (Ex S 24) S M_368 [] Q1 2020 lv [.int (S.2 (i + Int32.ofInt 2).toNatClampNeg), .int (S.2 (i + Int32.ofInt 1).toNatClampNeg), .ref 0] h c s
    refine Vx.go hC te_368_2020 ?_
    refine Vx.go hC te_368_2021 ?_
    refine ⟨_, hl.2.2.2.1, ⟨173, Or.inl rfl⟩, ?_⟩
    refine Vx.go hC te_368_2022 ?_
    refine Or.inr ⟨by decide, ?_⟩
    refine p_call_mk (av := [.ref 0, .int (S.2 (i + Int32.ofInt 1).toNatClampNeg), .int (S.2 (i + Int32.ofInt 2).toNatClampNeg), .int (Int32.ofInt 0), .ref 173]) (rest := []) mt_202 rfl (by decide) (show c + 4 ≤ 601024 by omega) (show s + 24 ≤ 7293033 by omega) (fun q => by cases q) ?_
    refine g_202 (n := 6) hL (fun r3 h1 hL2 => ?_)
    show Vx (Ex S 24) S M_368 [] Q1 2025 lv [.int r3] h1 (c + 4) (s + 24)
    refine Vx.go hC te_368_2025 ?_
    refine ⟨by decide, ?_⟩
    have hl4 := LwS.st (j := 5) (v := .int r3) (by omega) hl
    show Vx (Ex S 24) S M_368 [] Q1 2027 (px_s1 lv 5 (.int r3)) [] h1 (c + 4) (s + 24)
    refine Vx.go hC te_368_2027 ?_
    refine ⟨_, hl4.2.2.1, ⟨143, Or.inl rfl⟩, ?_⟩
    refine sc_load hC (k := 1) hl4 te_368_2028 te_368_2029 te_368_2031 te_368_2032 te_368_2033 (sc_in hS hi (by decide)) ?_
    refine sc_load hC (k := 2) hl4 te_368_2034 te_368_2035 te_368_2037 te_368_2038 te_368_2039 (sc_in hS hi (by decide)) ?_
    refine sc_load hC (k := 3) hl4 te_368_2040 te_368_2041 te_368_2043 te_368_2044 te_368_2045 (sc_in hS hi (by decide)) ?_
    refine Vx.go hC te_368_2046 ?_
    refine ⟨by decide, fun q => ?_, fun q => ?_⟩
    · show Vx (Ex S 24) S M_368 [] Q1 2053 (px_s1 lv 5 (.int r3)) [.int (S.2 (i + Int32.ofInt 2).toNatClampNeg), .int (S.2 (i + Int32.ofInt 1).toNatClampNeg), .ref 143] h1 (c + 4) (s + 24)
      refine Vx.go hC te_368_2053 ?_
      refine Vx.go hC te_368_2054 ?_
      obtain ⟨gs8, gs8g⟩ := hL2.obj (A := 143) rfl
      have hcall9 := ref_call (S := S) (n := 24) (μ := 359) (args := [.inr 143, .inl ((S.2 (i + Int32.ofInt 1).toNatClampNeg) : Int32).toInt, .inl ((S.2 (i + Int32.ofInt 2).toNatClampNeg) : Int32).toInt, .inl ((Int32.ofInt 0) : Int32).toInt]) (h := h1) (fun v hv => by simp only [List.mem_cons, List.not_mem_nil, or_false] at hv; rcases hv with rfl | rfl | rfl | rfl <;> first | trivial | exact wiI _) hL2 (fun mem hr => f_359 hr (fun r m' a b => ⟨a, b⟩))
      simp only [List.map_cons, List.map_nil, wv, Int32.ofInt_toInt] at hcall9
      refine p_call_mk (av := [.ref 143, .int (S.2 (i + Int32.ofInt 1).toNatClampNeg), .int (S.2 (i + Int32.ofInt 2).toNatClampNeg), .int (Int32.ofInt 0)]) (rest := []) mt_359 rfl (by decide) (show (c + 4) + 0 ≤ 601024 by omega) (show (s + 24) + 0 ≤ 7293033 by omega) (fun _ => ⟨143, gs8, rfl, gs8g⟩) ?_
      refine hC _ _ _ _ _ ?_ hcall9
      rintro _ h5 ⟨hL6, r7, rfl⟩
      show Vx (Ex S 24) S M_368 [] Q1 2057 (px_s1 lv 5 (.int r3)) [.int r7] h5 (c + 4) (s + 24)
      refine Vx.go hC te_368_2057 ?_
      refine ⟨by decide, ?_⟩
      have hl10 := LwS.st (j := 6) (v := .int r7) (by omega) hl4
      show Vx (Ex S 24) S M_368 [] Q1 2059 (px_s1 (px_s1 lv 5 (.int r3)) 6 (.int r7)) [] h5 (c + 4) (s + 24)
      refine Vx.go hC te_368_2059 ?_
      refine ⟨by decide, ?_⟩
      exact Nx _ _ _ _ hl10 hL6 (by omega) (by omega)
    · show Vx (Ex S 24) S M_368 [] Q1 2049 (px_s1 lv 5 (.int r3)) [.int (S.2 (i + Int32.ofInt 2).toNatClampNeg), .int (S.2 (i + Int32.ofInt 1).toNatClampNeg), .ref 143] h1 (c + 4) (s + 24)
      refine Vx.go hC te_368_2049 ?_
      refine Vx.go hC te_368_2050 ?_
      refine ⟨by decide, ?_⟩
      show Vx (Ex S 24) S M_368 [] Q1 2054 (px_s1 lv 5 (.int r3)) [.int (Int32.ofInt 1), .int (S.2 (i + Int32.ofInt 2).toNatClampNeg), .int (S.2 (i + Int32.ofInt 1).toNatClampNeg), .ref 143] h1 (c + 4) (s + 24)
      refine Vx.go hC te_368_2054 ?_
      obtain ⟨gs14, gs14g⟩ := hL2.obj (A := 143) rfl
      have hcall15 := ref_call (S := S) (n := 24) (μ := 359) (args := [.inr 143, .inl ((S.2 (i + Int32.ofInt 1).toNatClampNeg) : Int32).toInt, .inl ((S.2 (i + Int32.ofInt 2).toNatClampNeg) : Int32).toInt, .inl ((Int32.ofInt 1) : Int32).toInt]) (h := h1) (fun v hv => by simp only [List.mem_cons, List.not_mem_nil, or_false] at hv; rcases hv with rfl | rfl | rfl | rfl <;> first | trivial | exact wiI _) hL2 (fun mem hr => f_359 hr (fun r m' a b => ⟨a, b⟩))
      simp only [List.map_cons, List.map_nil, wv, Int32.ofInt_toInt] at hcall15
      refine p_call_mk (av := [.ref 143, .int (S.2 (i + Int32.ofInt 1).toNatClampNeg), .int (S.2 (i + Int32.ofInt 2).toNatClampNeg), .int (Int32.ofInt 1)]) (rest := []) mt_359 rfl (by decide) (show (c + 4) + 0 ≤ 601024 by omega) (show (s + 24) + 0 ≤ 7293033 by omega) (fun _ => ⟨143, gs14, rfl, gs14g⟩) ?_
      refine hC _ _ _ _ _ ?_ hcall15
      rintro _ h11 ⟨hL12, r13, rfl⟩
      show Vx (Ex S 24) S M_368 [] Q1 2057 (px_s1 lv 5 (.int r3)) [.int r13] h11 (c + 4) (s + 24)
      refine Vx.go hC te_368_2057 ?_
      refine ⟨by decide, ?_⟩
      have hl16 := LwS.st (j := 6) (v := .int r13) (by omega) hl4
      show Vx (Ex S 24) S M_368 [] Q1 2059 (px_s1 (px_s1 lv 5 (.int r3)) 6 (.int r13)) [] h11 (c + 4) (s + 24)
      refine Vx.go hC te_368_2059 ?_
      refine ⟨by decide, ?_⟩
      exact Nx _ _ _ _ hl16 hL12 (by omega) (by omega)
  · show Vx (Ex S 24) S M_368 [] Q1 2016 lv [.int (S.2 (i + Int32.ofInt 2).toNatClampNeg), .int (S.2 (i + Int32.ofInt 1).toNatClampNeg), .ref 0] h c s
    refine Vx.go hC te_368_2016 ?_
    refine Vx.go hC te_368_2017 ?_
    refine ⟨by decide, ?_⟩
    show Vx (Ex S 24) S M_368 [] Q1 2021 lv [.int (Int32.ofInt 1), .int (S.2 (i + Int32.ofInt 2).toNatClampNeg), .int (S.2 (i + Int32.ofInt 1).toNatClampNeg), .ref 0] h c s
    refine Vx.go hC te_368_2021 ?_
    refine ⟨_, hl.2.2.2.1, ⟨173, Or.inl rfl⟩, ?_⟩
    refine Vx.go hC te_368_2022 ?_
    refine Or.inr ⟨by decide, ?_⟩
    refine p_call_mk (av := [.ref 0, .int (S.2 (i + Int32.ofInt 1).toNatClampNeg), .int (S.2 (i + Int32.ofInt 2).toNatClampNeg), .int (Int32.ofInt 1), .ref 173]) (rest := []) mt_202 rfl (by decide) (show c + 4 ≤ 601024 by omega) (show s + 24 ≤ 7293033 by omega) (fun q => by cases q) ?_
    refine g_202 (n := 6) hL (fun r19 h17 hL18 => ?_)
    show Vx (Ex S 24) S M_368 [] Q1 2025 lv [.int r19] h17 (c + 4) (s + 24)
    refine Vx.go hC te_368_2025 ?_
    refine ⟨by decide, ?_⟩
    have hl20 := LwS.st (j := 5) (v := .int r19) (by omega) hl
    show Vx (Ex S 24) S M_368 [] Q1 2027 (px_s1 lv 5 (.int r19)) [] h17 (c + 4) (s + 24)
    refine Vx.go hC te_368_2027 ?_
    refine ⟨_, hl20.2.2.1, ⟨143, Or.inl rfl⟩, ?_⟩
    refine sc_load hC (k := 1) hl20 te_368_2028 te_368_2029 te_368_2031 te_368_2032 te_368_2033 (sc_in hS hi (by decide)) ?_
    refine sc_load hC (k := 2) hl20 te_368_2034 te_368_2035 te_368_2037 te_368_2038 te_368_2039 (sc_in hS hi (by decide)) ?_
    refine sc_load hC (k := 3) hl20 te_368_2040 te_368_2041 te_368_2043 te_368_2044 te_368_2045 (sc_in hS hi (by decide)) ?_
    refine Vx.go hC te_368_2046 ?_
    refine ⟨by decide, fun q => ?_, fun q => ?_⟩
    · show Vx (Ex S 24) S M_368 [] Q1 2053 (px_s1 lv 5 (.int r19)) [.int (S.2 (i + Int32.ofInt 2).toNatClampNeg), .int (S.2 (i + Int32.ofInt 1).toNatClampNeg), .ref 143] h17 (c + 4) (s + 24)
      refine Vx.go hC te_368_2053 ?_
      refine Vx.go hC te_368_2054 ?_
      obtain ⟨gs24, gs24g⟩ := hL18.obj (A := 143) rfl
      have hcall25 := ref_call (S := S) (n := 24) (μ := 359) (args := [.inr 143, .inl ((S.2 (i + Int32.ofInt 1).toNatClampNeg) : Int32).toInt, .inl ((S.2 (i + Int32.ofInt 2).toNatClampNeg) : Int32).toInt, .inl ((Int32.ofInt 0) : Int32).toInt]) (h := h17) (fun v hv => by simp only [List.mem_cons, List.not_mem_nil, or_false] at hv; rcases hv with rfl | rfl | rfl | rfl <;> first | trivial | exact wiI _) hL18 (fun mem hr => f_359 hr (fun r m' a b => ⟨a, b⟩))
      simp only [List.map_cons, List.map_nil, wv, Int32.ofInt_toInt] at hcall25
      refine p_call_mk (av := [.ref 143, .int (S.2 (i + Int32.ofInt 1).toNatClampNeg), .int (S.2 (i + Int32.ofInt 2).toNatClampNeg), .int (Int32.ofInt 0)]) (rest := []) mt_359 rfl (by decide) (show (c + 4) + 0 ≤ 601024 by omega) (show (s + 24) + 0 ≤ 7293033 by omega) (fun _ => ⟨143, gs24, rfl, gs24g⟩) ?_
      refine hC _ _ _ _ _ ?_ hcall25
      rintro _ h21 ⟨hL22, r23, rfl⟩
      show Vx (Ex S 24) S M_368 [] Q1 2057 (px_s1 lv 5 (.int r19)) [.int r23] h21 (c + 4) (s + 24)
      refine Vx.go hC te_368_2057 ?_
      refine ⟨by decide, ?_⟩
      have hl26 := LwS.st (j := 6) (v := .int r23) (by omega) hl20
      show Vx (Ex S 24) S M_368 [] Q1 2059 (px_s1 (px_s1 lv 5 (.int r19)) 6 (.int r23)) [] h21 (c + 4) (s + 24)
      refine Vx.go hC te_368_2059 ?_
      refine ⟨by decide, ?_⟩
      exact Nx _ _ _ _ hl26 hL22 (by omega) (by omega)
    · show Vx (Ex S 24) S M_368 [] Q1 2049 (px_s1 lv 5 (.int r19)) [.int (S.2 (i + Int32.ofInt 2).toNatClampNeg), .int (S.2 (i + Int32.ofInt 1).toNatClampNeg), .ref 143] h17 (c + 4) (s + 24)
      refine Vx.go hC te_368_2049 ?_
      refine Vx.go hC te_368_2050 ?_
      refine ⟨by decide, ?_⟩
      show Vx (Ex S 24) S M_368 [] Q1 2054 (px_s1 lv 5 (.int r19)) [.int (Int32.ofInt 1), .int (S.2 (i + Int32.ofInt 2).toNatClampNeg), .int (S.2 (i + Int32.ofInt 1).toNatClampNeg), .ref 143] h17 (c + 4) (s + 24)
      refine Vx.go hC te_368_2054 ?_
      obtain ⟨gs30, gs30g⟩ := hL18.obj (A := 143) rfl
      have hcall31 := ref_call (S := S) (n := 24) (μ := 359) (args := [.inr 143, .inl ((S.2 (i + Int32.ofInt 1).toNatClampNeg) : Int32).toInt, .inl ((S.2 (i + Int32.ofInt 2).toNatClampNeg) : Int32).toInt, .inl ((Int32.ofInt 1) : Int32).toInt]) (h := h17) (fun v hv => by simp only [List.mem_cons, List.not_mem_nil, or_false] at hv; rcases hv with rfl | rfl | rfl | rfl <;> first | trivial | exact wiI _) hL18 (fun mem hr => f_359 hr (fun r m' a b => ⟨a, b⟩))
      simp only [List.map_cons, List.map_nil, wv, Int32.ofInt_toInt] at hcall31
      refine p_call_mk (av := [.ref 143, .int (S.2 (i + Int32.ofInt 1).toNatClampNeg), .int (S.2 (i + Int32.ofInt 2).toNatClampNeg), .int (Int32.ofInt 1)]) (rest := []) mt_359 rfl (by decide) (show (c + 4) + 0 ≤ 601024 by omega) (show (s + 24) + 0 ≤ 7293033 by omega) (fun _ => ⟨143, gs30, rfl, gs30g⟩) ?_
      refine hC _ _ _ _ _ ?_ hcall31
      rintro _ h27 ⟨hL28, r29, rfl⟩
      show Vx (Ex S 24) S M_368 [] Q1 2057 (px_s1 lv 5 (.int r19)) [.int r29] h27 (c + 4) (s + 24)
      refine Vx.go hC te_368_2057 ?_
      refine ⟨by decide, ?_⟩
      have hl32 := LwS.st (j := 6) (v := .int r29) (by omega) hl20
      show Vx (Ex S 24) S M_368 [] Q1 2059 (px_s1 (px_s1 lv 5 (.int r19)) 6 (.int r29)) [] h27 (c + 4) (s + 24)
      refine Vx.go hC te_368_2059 ?_
      refine ⟨by decide, ?_⟩
      exact Nx _ _ _ _ hl32 hL28 (by omega) (by omega)
theorem lc_42 {S : Nat × (Nat → Int32)} {lv : LV} {h : PH} {c s : Nat} {i : Int32} (hS : S.1 ≤ 3072) (hl : LwS lv i) (hi : 0 ≤ i.toInt ∧ i.toInt + 5 < S.1) (hL : LI h) (hc : c + 8 ≤ 601024) (hs : s + 48 ≤ 7293033) (Nx : ∀ lv' h' c' s', LwS lv' i → LI h' → c' ≤ c + 8 → s' ≤ s + 48 → Vx (Ex S 24) S M_368 [] Q1 2327 lv' [] h' c' s') : Vx (Ex S 24) S M_368 [] Q1 2062 lv [] h c s := by
  have hC := Ex.mono S 24
  refine Vx.go hC te_368_2062 ?_
  refine ⟨_, hl.2.1, ⟨0, Or.inl rfl⟩, ?_⟩
  refine sc_load hC (k := 1) hl te_368_2063 te_368_2064 te_368_2066 te_368_2067 te_368_2068 (sc_in hS hi (by decide)) ?_
  refine sc_load hC (k := 2) hl te_368_2069 te_368_2070 te_368_2072 te_368_2073 te_368_2074 (sc_in hS hi (by decide)) ?_
  refine sc_load hC (k := 3) hl te_368_2075 te_368_2076 te_368_2078 te_368_2079 te_368_2080 (sc_in hS hi (by decide)) ?_
  refine Vx.go hC te_368_2081 ?_
  refine ⟨_, hl.2.2.2.1, ⟨173, Or.inl rfl⟩, ?_⟩
  refine Vx.go hC te_368_2082 ?_
  refine Or.inr ⟨by decide, ?_⟩
  refine p_call_mk (av := [.ref 0, .int (S.2 (i + Int32.ofInt 1).toNatClampNeg), .int (S.2 (i + Int32.ofInt 2).toNatClampNeg), .int (S.2 (i + Int32.ofInt 3).toNatClampNeg), .ref 173]) (rest := []) mt_206 rfl (by decide) (show c + 6 ≤ 601024 by omega) (show s + 36 ≤ 7293033 by omega) (fun q => by cases q) ?_
  refine g_206 (n := 6) hL (fun r3 h1 hL2 => ?_)
  show Vx (Ex S 24) S M_368 [] Q1 2085 lv [.int r3] h1 (c + 6) (s + 36)
  refine Vx.go hC te_368_2085 ?_
  refine ⟨by decide, ?_⟩
  have hl4 := LwS.st (j := 5) (v := .int r3) (by omega) hl
  show Vx (Ex S 24) S M_368 [] Q1 2087 (px_s1 lv 5 (.int r3)) [] h1 (c + 6) (s + 36)
  refine Vx.go hC te_368_2087 ?_
  refine ⟨_, hl4.2.2.1, ⟨143, Or.inl rfl⟩, ?_⟩
  refine sc_load hC (k := 1) hl4 te_368_2088 te_368_2089 te_368_2091 te_368_2092 te_368_2093 (sc_in hS hi (by decide)) ?_
  refine sc_load hC (k := 2) hl4 te_368_2094 te_368_2095 te_368_2097 te_368_2098 te_368_2099 (sc_in hS hi (by decide)) ?_
  refine sc_load hC (k := 3) hl4 te_368_2100 te_368_2101 te_368_2103 te_368_2104 te_368_2105 (sc_in hS hi (by decide)) ?_
  refine Vx.go hC te_368_2106 ?_
  obtain ⟨gs8, gs8g⟩ := hL2.obj (A := 143) rfl
  have hcall9 := ref_call (S := S) (n := 24) (μ := 361) (args := [.inr 143, .inl ((S.2 (i + Int32.ofInt 1).toNatClampNeg) : Int32).toInt, .inl ((S.2 (i + Int32.ofInt 2).toNatClampNeg) : Int32).toInt, .inl ((S.2 (i + Int32.ofInt 3).toNatClampNeg) : Int32).toInt]) (h := h1) (fun v hv => by simp only [List.mem_cons, List.not_mem_nil, or_false] at hv; rcases hv with rfl | rfl | rfl | rfl <;> first | trivial | exact wiI _) hL2 (fun mem hr => f_361 hr (fun r m' a b => ⟨a, b⟩))
  simp only [List.map_cons, List.map_nil, wv, Int32.ofInt_toInt] at hcall9
  refine p_call_mk (av := [.ref 143, .int (S.2 (i + Int32.ofInt 1).toNatClampNeg), .int (S.2 (i + Int32.ofInt 2).toNatClampNeg), .int (S.2 (i + Int32.ofInt 3).toNatClampNeg)]) (rest := []) mt_361 rfl (by decide) (show (c + 6) + 0 ≤ 601024 by omega) (show (s + 36) + 0 ≤ 7293033 by omega) (fun _ => ⟨143, gs8, rfl, gs8g⟩) ?_
  refine hC _ _ _ _ _ ?_ hcall9
  rintro _ h5 ⟨hL6, r7, rfl⟩
  show Vx (Ex S 24) S M_368 [] Q1 2109 (px_s1 lv 5 (.int r3)) [.int r7] h5 (c + 6) (s + 36)
  refine Vx.go hC te_368_2109 ?_
  refine ⟨by decide, ?_⟩
  have hl10 := LwS.st (j := 6) (v := .int r7) (by omega) hl4
  show Vx (Ex S 24) S M_368 [] Q1 2111 (px_s1 (px_s1 lv 5 (.int r3)) 6 (.int r7)) [] h5 (c + 6) (s + 36)
  refine Vx.go hC te_368_2111 ?_
  refine ⟨by decide, ?_⟩
  exact Nx _ _ _ _ hl10 hL6 (by omega) (by omega)
theorem lc_43 {S : Nat × (Nat → Int32)} {lv : LV} {h : PH} {c s : Nat} {i : Int32} (hS : S.1 ≤ 3072) (hl : LwS lv i) (hi : 0 ≤ i.toInt ∧ i.toInt + 5 < S.1) (hL : LI h) (hc : c + 8 ≤ 601024) (hs : s + 48 ≤ 7293033) (Nx : ∀ lv' h' c' s', LwS lv' i → LI h' → c' ≤ c + 8 → s' ≤ s + 48 → Vx (Ex S 24) S M_368 [] Q1 2327 lv' [] h' c' s') : Vx (Ex S 24) S M_368 [] Q1 2114 lv [] h c s := by
  have hC := Ex.mono S 24
  refine Vx.go hC te_368_2114 ?_
  refine ⟨_, hl.2.1, ⟨0, Or.inl rfl⟩, ?_⟩
  refine sc_load hC (k := 1) hl te_368_2115 te_368_2116 te_368_2118 te_368_2119 te_368_2120 (sc_in hS hi (by decide)) ?_
  refine sc_load hC (k := 2) hl te_368_2121 te_368_2122 te_368_2124 te_368_2125 te_368_2126 (sc_in hS hi (by decide)) ?_
  refine Vx.go hC te_368_2127 ?_
  refine ⟨_, hl.2.2.2.1, ⟨173, Or.inl rfl⟩, ?_⟩
  refine Vx.go hC te_368_2128 ?_
  refine Or.inr ⟨by decide, ?_⟩
  refine p_call_mk (av := [.ref 0, .int (S.2 (i + Int32.ofInt 1).toNatClampNeg), .int (S.2 (i + Int32.ofInt 2).toNatClampNeg), .ref 173]) (rest := []) mt_209 rfl (by decide) (show c + 5 ≤ 601024 by omega) (show s + 30 ≤ 7293033 by omega) (fun q => by cases q) ?_
  refine g_209 (n := 6) hL (fun r3 h1 hL2 => ?_)
  show Vx (Ex S 24) S M_368 [] Q1 2131 lv [.int r3] h1 (c + 5) (s + 30)
  refine Vx.go hC te_368_2131 ?_
  refine ⟨by decide, ?_⟩
  have hl4 := LwS.st (j := 5) (v := .int r3) (by omega) hl
  show Vx (Ex S 24) S M_368 [] Q1 2133 (px_s1 lv 5 (.int r3)) [] h1 (c + 5) (s + 30)
  refine Vx.go hC te_368_2133 ?_
  refine ⟨_, hl4.2.2.1, ⟨143, Or.inl rfl⟩, ?_⟩
  refine sc_load hC (k := 1) hl4 te_368_2134 te_368_2135 te_368_2137 te_368_2138 te_368_2139 (sc_in hS hi (by decide)) ?_
  refine sc_load hC (k := 2) hl4 te_368_2140 te_368_2141 te_368_2143 te_368_2144 te_368_2145 (sc_in hS hi (by decide)) ?_
  refine Vx.go hC te_368_2146 ?_
  obtain ⟨gs8, gs8g⟩ := hL2.obj (A := 143) rfl
  have hcall9 := ref_call (S := S) (n := 24) (μ := 362) (args := [.inr 143, .inl ((S.2 (i + Int32.ofInt 1).toNatClampNeg) : Int32).toInt, .inl ((S.2 (i + Int32.ofInt 2).toNatClampNeg) : Int32).toInt]) (h := h1) (fun v hv => by simp only [List.mem_cons, List.not_mem_nil, or_false] at hv; rcases hv with rfl | rfl | rfl <;> first | trivial | exact wiI _) hL2 (fun mem hr => f_362 hr (fun r m' a b => ⟨a, b⟩))
  simp only [List.map_cons, List.map_nil, wv, Int32.ofInt_toInt] at hcall9
  refine p_call_mk (av := [.ref 143, .int (S.2 (i + Int32.ofInt 1).toNatClampNeg), .int (S.2 (i + Int32.ofInt 2).toNatClampNeg)]) (rest := []) mt_362 rfl (by decide) (show (c + 5) + 0 ≤ 601024 by omega) (show (s + 30) + 0 ≤ 7293033 by omega) (fun _ => ⟨143, gs8, rfl, gs8g⟩) ?_
  refine hC _ _ _ _ _ ?_ hcall9
  rintro _ h5 ⟨hL6, r7, rfl⟩
  show Vx (Ex S 24) S M_368 [] Q1 2149 (px_s1 lv 5 (.int r3)) [.int r7] h5 (c + 5) (s + 30)
  refine Vx.go hC te_368_2149 ?_
  refine ⟨by decide, ?_⟩
  have hl10 := LwS.st (j := 6) (v := .int r7) (by omega) hl4
  show Vx (Ex S 24) S M_368 [] Q1 2151 (px_s1 (px_s1 lv 5 (.int r3)) 6 (.int r7)) [] h5 (c + 5) (s + 30)
  refine Vx.go hC te_368_2151 ?_
  refine ⟨by decide, ?_⟩
  exact Nx _ _ _ _ hl10 hL6 (by omega) (by omega)
theorem lc_44 {S : Nat × (Nat → Int32)} {lv : LV} {h : PH} {c s : Nat} {i : Int32} (hS : S.1 ≤ 3072) (hl : LwS lv i) (hi : 0 ≤ i.toInt ∧ i.toInt + 5 < S.1) (hL : LI h) (hc : c + 8 ≤ 601024) (hs : s + 48 ≤ 7293033) (Nx : ∀ lv' h' c' s', LwS lv' i → LI h' → c' ≤ c + 8 → s' ≤ s + 48 → Vx (Ex S 24) S M_368 [] Q1 2327 lv' [] h' c' s') : Vx (Ex S 24) S M_368 [] Q1 2154 lv [] h c s := by
  have hC := Ex.mono S 24
  refine Vx.go hC te_368_2154 ?_
  refine ⟨_, hl.2.1, ⟨0, Or.inl rfl⟩, ?_⟩
  refine sc_load hC (k := 1) hl te_368_2155 te_368_2156 te_368_2158 te_368_2159 te_368_2160 (sc_in hS hi (by decide)) ?_
  refine sc_load hC (k := 2) hl te_368_2161 te_368_2162 te_368_2164 te_368_2165 te_368_2166 (sc_in hS hi (by decide)) ?_
  refine sc_load hC (k := 3) hl te_368_2167 te_368_2168 te_368_2170 te_368_2171 te_368_2172 (sc_in hS hi (by decide)) ?_
  refine sc_load hC (k := 4) hl te_368_2173 te_368_2174 te_368_2176 te_368_2177 te_368_2178 (sc_in hS hi (by decide)) ?_
  refine Vx.go hC te_368_2179 ?_
  refine ⟨_, hl.2.2.2.1, ⟨173, Or.inl rfl⟩, ?_⟩
  refine Vx.go hC te_368_2180 ?_
  refine Or.inr ⟨by decide, ?_⟩
  refine p_call_mk (av := [.ref 0, .int (S.2 (i + Int32.ofInt 1).toNatClampNeg), .int (S.2 (i + Int32.ofInt 2).toNatClampNeg), .int (S.2 (i + Int32.ofInt 3).toNatClampNeg), .int (S.2 (i + Int32.ofInt 4).toNatClampNeg), .ref 173]) (rest := []) mt_213 rfl (by decide) (show c + 6 ≤ 601024 by omega) (show s + 36 ≤ 7293033 by omega) (fun q => by cases q) ?_
  refine g_213 (n := 6) hL (fun r3 h1 hL2 => ?_)
  show Vx (Ex S 24) S M_368 [] Q1 2183 lv [.int r3] h1 (c + 6) (s + 36)
  refine Vx.go hC te_368_2183 ?_
  refine ⟨by decide, ?_⟩
  have hl4 := LwS.st (j := 5) (v := .int r3) (by omega) hl
  show Vx (Ex S 24) S M_368 [] Q1 2185 (px_s1 lv 5 (.int r3)) [] h1 (c + 6) (s + 36)
  refine Vx.go hC te_368_2185 ?_
  refine ⟨_, hl4.2.2.1, ⟨143, Or.inl rfl⟩, ?_⟩
  refine sc_load hC (k := 1) hl4 te_368_2186 te_368_2187 te_368_2189 te_368_2190 te_368_2191 (sc_in hS hi (by decide)) ?_
  refine sc_load hC (k := 2) hl4 te_368_2192 te_368_2193 te_368_2195 te_368_2196 te_368_2197 (sc_in hS hi (by decide)) ?_
  refine sc_load hC (k := 3) hl4 te_368_2198 te_368_2199 te_368_2201 te_368_2202 te_368_2203 (sc_in hS hi (by decide)) ?_
  refine sc_load hC (k := 4) hl4 te_368_2204 te_368_2205 te_368_2207 te_368_2208 te_368_2209 (sc_in hS hi (by decide)) ?_
  refine Vx.go hC te_368_2210 ?_
  obtain ⟨gs8, gs8g⟩ := hL2.obj (A := 143) rfl
  have hcall9 := ref_call (S := S) (n := 24) (μ := 364) (args := [.inr 143, .inl ((S.2 (i + Int32.ofInt 1).toNatClampNeg) : Int32).toInt, .inl ((S.2 (i + Int32.ofInt 2).toNatClampNeg) : Int32).toInt, .inl ((S.2 (i + Int32.ofInt 3).toNatClampNeg) : Int32).toInt, .inl ((S.2 (i + Int32.ofInt 4).toNatClampNeg) : Int32).toInt]) (h := h1) (fun v hv => by simp only [List.mem_cons, List.not_mem_nil, or_false] at hv; rcases hv with rfl | rfl | rfl | rfl | rfl <;> first | trivial | exact wiI _) hL2 (fun mem hr => f_364 hr (fun r m' a b => ⟨a, b⟩))
  simp only [List.map_cons, List.map_nil, wv, Int32.ofInt_toInt] at hcall9
  refine p_call_mk (av := [.ref 143, .int (S.2 (i + Int32.ofInt 1).toNatClampNeg), .int (S.2 (i + Int32.ofInt 2).toNatClampNeg), .int (S.2 (i + Int32.ofInt 3).toNatClampNeg), .int (S.2 (i + Int32.ofInt 4).toNatClampNeg)]) (rest := []) mt_364 rfl (by decide) (show (c + 6) + 0 ≤ 601024 by omega) (show (s + 36) + 0 ≤ 7293033 by omega) (fun _ => ⟨143, gs8, rfl, gs8g⟩) ?_
  refine hC _ _ _ _ _ ?_ hcall9
  rintro _ h5 ⟨hL6, r7, rfl⟩
  show Vx (Ex S 24) S M_368 [] Q1 2213 (px_s1 lv 5 (.int r3)) [.int r7] h5 (c + 6) (s + 36)
  refine Vx.go hC te_368_2213 ?_
  refine ⟨by decide, ?_⟩
  have hl10 := LwS.st (j := 6) (v := .int r7) (by omega) hl4
  show Vx (Ex S 24) S M_368 [] Q1 2215 (px_s1 (px_s1 lv 5 (.int r3)) 6 (.int r7)) [] h5 (c + 6) (s + 36)
  refine Vx.go hC te_368_2215 ?_
  refine ⟨by decide, ?_⟩
  exact Nx _ _ _ _ hl10 hL6 (by omega) (by omega)
theorem lc_45 {S : Nat × (Nat → Int32)} {lv : LV} {h : PH} {c s : Nat} {i : Int32} (hS : S.1 ≤ 3072) (hl : LwS lv i) (hi : 0 ≤ i.toInt ∧ i.toInt + 5 < S.1) (hL : LI h) (hc : c + 8 ≤ 601024) (hs : s + 48 ≤ 7293033) (Nx : ∀ lv' h' c' s', LwS lv' i → LI h' → c' ≤ c + 8 → s' ≤ s + 48 → Vx (Ex S 24) S M_368 [] Q1 2327 lv' [] h' c' s') : Vx (Ex S 24) S M_368 [] Q1 2218 lv [] h c s := by
  have hC := Ex.mono S 24
  refine Vx.go hC te_368_2218 ?_
  refine ⟨_, hl.2.1, ⟨0, Or.inl rfl⟩, ?_⟩
  refine sc_load hC (k := 1) hl te_368_2219 te_368_2220 te_368_2222 te_368_2223 te_368_2224 (sc_in hS hi (by decide)) ?_
  refine Vx.go hC te_368_2225 ?_
  refine ⟨_, hl.2.2.2.1, ⟨173, Or.inl rfl⟩, ?_⟩
  refine Vx.go hC te_368_2226 ?_
  refine Or.inr ⟨by decide, ?_⟩
  refine p_call_mk (av := [.ref 0, .int (S.2 (i + Int32.ofInt 1).toNatClampNeg), .ref 173]) (rest := []) mt_218 rfl (by decide) (show c + 3 ≤ 601024 by omega) (show s + 18 ≤ 7293033 by omega) (fun q => by cases q) ?_
  refine g_218 (n := 6) hL (fun r3 h1 hL2 => ?_)
  show Vx (Ex S 24) S M_368 [] Q1 2229 lv [.int r3] h1 (c + 3) (s + 18)
  refine Vx.go hC te_368_2229 ?_
  refine ⟨by decide, ?_⟩
  have hl4 := LwS.st (j := 5) (v := .int r3) (by omega) hl
  show Vx (Ex S 24) S M_368 [] Q1 2231 (px_s1 lv 5 (.int r3)) [] h1 (c + 3) (s + 18)
  refine Vx.go hC te_368_2231 ?_
  refine ⟨_, hl4.2.2.1, ⟨143, Or.inl rfl⟩, ?_⟩
  refine sc_load hC (k := 1) hl4 te_368_2232 te_368_2233 te_368_2235 te_368_2236 te_368_2237 (sc_in hS hi (by decide)) ?_
  refine Vx.go hC te_368_2238 ?_
  obtain ⟨gs8, gs8g⟩ := hL2.obj (A := 143) rfl
  have hcall9 := ref_call (S := S) (n := 24) (μ := 336) (args := [.inr 143, .inl ((S.2 (i + Int32.ofInt 1).toNatClampNeg) : Int32).toInt]) (h := h1) (fun v hv => by simp only [List.mem_cons, List.not_mem_nil, or_false] at hv; rcases hv with rfl | rfl <;> first | trivial | exact wiI _) hL2 (fun mem hr => f_336 hr (fun r m' a b => ⟨a, b⟩))
  simp only [List.map_cons, List.map_nil, wv, Int32.ofInt_toInt] at hcall9
  refine p_call_mk (av := [.ref 143, .int (S.2 (i + Int32.ofInt 1).toNatClampNeg)]) (rest := []) mt_336 rfl (by decide) (show (c + 3) + 0 ≤ 601024 by omega) (show (s + 18) + 0 ≤ 7293033 by omega) (fun _ => ⟨143, gs8, rfl, gs8g⟩) ?_
  refine hC _ _ _ _ _ ?_ hcall9
  rintro _ h5 ⟨hL6, r7, rfl⟩
  show Vx (Ex S 24) S M_368 [] Q1 2241 (px_s1 lv 5 (.int r3)) [.int r7] h5 (c + 3) (s + 18)
  refine Vx.go hC te_368_2241 ?_
  refine ⟨by decide, ?_⟩
  have hl10 := LwS.st (j := 6) (v := .int r7) (by omega) hl4
  show Vx (Ex S 24) S M_368 [] Q1 2243 (px_s1 (px_s1 lv 5 (.int r3)) 6 (.int r7)) [] h5 (c + 3) (s + 18)
  refine Vx.go hC te_368_2243 ?_
  refine ⟨by decide, ?_⟩
  exact Nx _ _ _ _ hl10 hL6 (by omega) (by omega)
theorem lc_46 {S : Nat × (Nat → Int32)} {lv : LV} {h : PH} {c s : Nat} {i : Int32} (hS : S.1 ≤ 3072) (hl : LwS lv i) (hi : 0 ≤ i.toInt ∧ i.toInt + 5 < S.1) (hL : LI h) (hc : c + 8 ≤ 601024) (hs : s + 48 ≤ 7293033) (Nx : ∀ lv' h' c' s', LwS lv' i → LI h' → c' ≤ c + 8 → s' ≤ s + 48 → Vx (Ex S 24) S M_368 [] Q1 2327 lv' [] h' c' s') : Vx (Ex S 24) S M_368 [] Q1 2246 lv [] h c s := by
  have hC := Ex.mono S 24
  refine Vx.go hC te_368_2246 ?_
  refine ⟨_, hl.2.1, ⟨0, Or.inl rfl⟩, ?_⟩
  refine sc_load hC (k := 1) hl te_368_2247 te_368_2248 te_368_2250 te_368_2251 te_368_2252 (sc_in hS hi (by decide)) ?_
  refine Vx.go hC te_368_2253 ?_
  refine ⟨_, hl.2.2.2.1, ⟨173, Or.inl rfl⟩, ?_⟩
  refine Vx.go hC te_368_2254 ?_
  refine Or.inr ⟨by decide, ?_⟩
  refine p_call_mk (av := [.ref 0, .int (S.2 (i + Int32.ofInt 1).toNatClampNeg), .ref 173]) (rest := []) mt_220 rfl (by decide) (show c + 2 ≤ 601024 by omega) (show s + 12 ≤ 7293033 by omega) (fun q => by cases q) ?_
  refine g_220 (n := 6) hL (fun r3 h1 hL2 => ?_)
  show Vx (Ex S 24) S M_368 [] Q1 2257 lv [.int r3] h1 (c + 2) (s + 12)
  refine Vx.go hC te_368_2257 ?_
  refine ⟨by decide, ?_⟩
  have hl4 := LwS.st (j := 5) (v := .int r3) (by omega) hl
  show Vx (Ex S 24) S M_368 [] Q1 2259 (px_s1 lv 5 (.int r3)) [] h1 (c + 2) (s + 12)
  refine Vx.go hC te_368_2259 ?_
  refine ⟨_, hl4.2.2.1, ⟨143, Or.inl rfl⟩, ?_⟩
  refine sc_load hC (k := 1) hl4 te_368_2260 te_368_2261 te_368_2263 te_368_2264 te_368_2265 (sc_in hS hi (by decide)) ?_
  refine Vx.go hC te_368_2266 ?_
  obtain ⟨gs8, gs8g⟩ := hL2.obj (A := 143) rfl
  have hcall9 := ref_call (S := S) (n := 24) (μ := 357) (args := [.inr 143, .inl ((S.2 (i + Int32.ofInt 1).toNatClampNeg) : Int32).toInt]) (h := h1) (fun v hv => by simp only [List.mem_cons, List.not_mem_nil, or_false] at hv; rcases hv with rfl | rfl <;> first | trivial | exact wiI _) hL2 (fun mem hr => f_357 hr (fun r m' a b => ⟨a, b⟩))
  simp only [List.map_cons, List.map_nil, wv, Int32.ofInt_toInt] at hcall9
  refine p_call_mk (av := [.ref 143, .int (S.2 (i + Int32.ofInt 1).toNatClampNeg)]) (rest := []) mt_357 rfl (by decide) (show (c + 2) + 0 ≤ 601024 by omega) (show (s + 12) + 0 ≤ 7293033 by omega) (fun _ => ⟨143, gs8, rfl, gs8g⟩) ?_
  refine hC _ _ _ _ _ ?_ hcall9
  rintro _ h5 ⟨hL6, r7, rfl⟩
  show Vx (Ex S 24) S M_368 [] Q1 2269 (px_s1 lv 5 (.int r3)) [.int r7] h5 (c + 2) (s + 12)
  refine Vx.go hC te_368_2269 ?_
  refine ⟨by decide, ?_⟩
  have hl10 := LwS.st (j := 6) (v := .int r7) (by omega) hl4
  show Vx (Ex S 24) S M_368 [] Q1 2271 (px_s1 (px_s1 lv 5 (.int r3)) 6 (.int r7)) [] h5 (c + 2) (s + 12)
  refine Vx.go hC te_368_2271 ?_
  refine ⟨by decide, ?_⟩
  exact Nx _ _ _ _ hl10 hL6 (by omega) (by omega)
theorem lc_47 {S : Nat × (Nat → Int32)} {lv : LV} {h : PH} {c s : Nat} {i : Int32} (hS : S.1 ≤ 3072) (hl : LwS lv i) (hi : 0 ≤ i.toInt ∧ i.toInt + 5 < S.1) (hL : LI h) (hc : c + 8 ≤ 601024) (hs : s + 48 ≤ 7293033) (Nx : ∀ lv' h' c' s', LwS lv' i → LI h' → c' ≤ c + 8 → s' ≤ s + 48 → Vx (Ex S 24) S M_368 [] Q1 2327 lv' [] h' c' s') : Vx (Ex S 24) S M_368 [] Q1 2274 lv [] h c s := by
  have hC := Ex.mono S 24
  refine Vx.go hC te_368_2274 ?_
  refine ⟨_, hl.2.1, ⟨0, Or.inl rfl⟩, ?_⟩
  refine sc_load hC (k := 1) hl te_368_2275 te_368_2276 te_368_2278 te_368_2279 te_368_2280 (sc_in hS hi (by decide)) ?_
  refine Vx.go hC te_368_2281 ?_
  refine ⟨_, hl.2.2.2.1, ⟨173, Or.inl rfl⟩, ?_⟩
  refine Vx.go hC te_368_2282 ?_
  refine Or.inr ⟨by decide, ?_⟩
  refine p_call_mk (av := [.ref 0, .int (S.2 (i + Int32.ofInt 1).toNatClampNeg), .ref 173]) (rest := []) mt_222 rfl (by decide) (show c + 2 ≤ 601024 by omega) (show s + 12 ≤ 7293033 by omega) (fun q => by cases q) ?_
  refine g_222 (n := 6) hL (fun r3 h1 hL2 => ?_)
  show Vx (Ex S 24) S M_368 [] Q1 2285 lv [.int r3] h1 (c + 2) (s + 12)
  refine Vx.go hC te_368_2285 ?_
  refine ⟨by decide, ?_⟩
  have hl4 := LwS.st (j := 5) (v := .int r3) (by omega) hl
  show Vx (Ex S 24) S M_368 [] Q1 2287 (px_s1 lv 5 (.int r3)) [] h1 (c + 2) (s + 12)
  refine Vx.go hC te_368_2287 ?_
  refine ⟨_, hl4.2.2.1, ⟨143, Or.inl rfl⟩, ?_⟩
  refine sc_load hC (k := 1) hl4 te_368_2288 te_368_2289 te_368_2291 te_368_2292 te_368_2293 (sc_in hS hi (by decide)) ?_
  refine Vx.go hC te_368_2294 ?_
  obtain ⟨gs8, gs8g⟩ := hL2.obj (A := 143) rfl
  have hcall9 := ref_call (S := S) (n := 24) (μ := 358) (args := [.inr 143, .inl ((S.2 (i + Int32.ofInt 1).toNatClampNeg) : Int32).toInt]) (h := h1) (fun v hv => by simp only [List.mem_cons, List.not_mem_nil, or_false] at hv; rcases hv with rfl | rfl <;> first | trivial | exact wiI _) hL2 (fun mem hr => f_358 hr (fun r m' a b => ⟨a, b⟩))
  simp only [List.map_cons, List.map_nil, wv, Int32.ofInt_toInt] at hcall9
  refine p_call_mk (av := [.ref 143, .int (S.2 (i + Int32.ofInt 1).toNatClampNeg)]) (rest := []) mt_358 rfl (by decide) (show (c + 2) + 0 ≤ 601024 by omega) (show (s + 12) + 0 ≤ 7293033 by omega) (fun _ => ⟨143, gs8, rfl, gs8g⟩) ?_
  refine hC _ _ _ _ _ ?_ hcall9
  rintro _ h5 ⟨hL6, r7, rfl⟩
  show Vx (Ex S 24) S M_368 [] Q1 2297 (px_s1 lv 5 (.int r3)) [.int r7] h5 (c + 2) (s + 12)
  refine Vx.go hC te_368_2297 ?_
  refine ⟨by decide, ?_⟩
  have hl10 := LwS.st (j := 6) (v := .int r7) (by omega) hl4
  show Vx (Ex S 24) S M_368 [] Q1 2299 (px_s1 (px_s1 lv 5 (.int r3)) 6 (.int r7)) [] h5 (c + 2) (s + 12)
  refine Vx.go hC te_368_2299 ?_
  refine ⟨by decide, ?_⟩
  exact Nx _ _ _ _ hl10 hL6 (by omega) (by omega)
theorem lc_48 {S : Nat × (Nat → Int32)} {lv : LV} {h : PH} {c s : Nat} {i : Int32} (hS : S.1 ≤ 3072) (hl : LwS lv i) (hi : 0 ≤ i.toInt ∧ i.toInt + 5 < S.1) (hL : LI h) (hc : c + 8 ≤ 601024) (hs : s + 48 ≤ 7293033) (Nx : ∀ lv' h' c' s', LwS lv' i → LI h' → c' ≤ c + 8 → s' ≤ s + 48 → Vx (Ex S 24) S M_368 [] Q1 2327 lv' [] h' c' s') : Vx (Ex S 24) S M_368 [] Q1 2302 lv [] h c s := by
  have hC := Ex.mono S 24
  refine Vx.go hC te_368_2302 ?_
  refine ⟨_, hl.2.1, ⟨0, Or.inl rfl⟩, ?_⟩
  refine sc_load hC (k := 1) hl te_368_2303 te_368_2304 te_368_2306 te_368_2307 te_368_2308 (sc_in hS hi (by decide)) ?_
  refine Vx.go hC te_368_2309 ?_
  obtain ⟨gs4, gs4g⟩ := hL.obj (A := 0) rfl
  have hcall5 := cls_call (S := S) (n := 24) (μ := 31) (args := [.inr 0, .inl ((S.2 (i + Int32.ofInt 1).toNatClampNeg) : Int32).toInt]) (h := h) (es := fun _ => False) (fun v hv => by simp only [List.mem_cons, List.not_mem_nil, or_false] at hv; rcases hv with rfl | rfl <;> first | trivial | exact wiI _) hL (fun mem hr => f_31 hr (fun r m' a b => ⟨a, pNb_pCl b⟩))
  simp only [List.map_cons, List.map_nil, wv, Int32.ofInt_toInt] at hcall5
  refine p_call_mk (av := [.ref 0, .int (S.2 (i + Int32.ofInt 1).toNatClampNeg)]) (rest := []) mt_31 rfl (by decide) (show c + 0 ≤ 601024 by omega) (show s + 0 ≤ 7293033 by omega) (fun _ => ⟨0, gs4, rfl, gs4g⟩) ?_
  refine hC _ _ _ _ _ ?_ hcall5
  rintro _ h1 ⟨hL2, hor⟩
  obtain ⟨r3, rfl⟩ := hor.resolve_right (fun ⟨_, q, _⟩ => q)
  show Vx (Ex S 24) S M_368 [] Q1 2312 lv [.int r3] h1 c s
  refine Vx.go hC te_368_2312 ?_
  refine ⟨_, _, rfl, rfl, ?_⟩
  show Vx (Ex S 24) S M_368 [] Q1 2313 lv [] h1 c s
  refine Vx.go hC te_368_2313 ?_
  refine ⟨_, hl.2.2.1, ⟨143, Or.inl rfl⟩, ?_⟩
  refine sc_load hC (k := 1) hl te_368_2314 te_368_2315 te_368_2317 te_368_2318 te_368_2319 (sc_in hS hi (by decide)) ?_
  refine Vx.go hC te_368_2320 ?_
  obtain ⟨gs9, gs9g⟩ := hL2.obj (A := 143) rfl
  have hcall10 := ref_call (S := S) (n := 24) (μ := 366) (args := [.inr 143, .inl ((S.2 (i + Int32.ofInt 1).toNatClampNeg) : Int32).toInt]) (h := h1) (fun v hv => by simp only [List.mem_cons, List.not_mem_nil, or_false] at hv; rcases hv with rfl | rfl <;> first | trivial | exact wiI _) hL2 (fun mem hr => f_366 hr (fun r m' a b => ⟨a, b⟩))
  simp only [List.map_cons, List.map_nil, wv, Int32.ofInt_toInt] at hcall10
  refine p_call_mk (av := [.ref 143, .int (S.2 (i + Int32.ofInt 1).toNatClampNeg)]) (rest := []) mt_366 rfl (by decide) (show c + 0 ≤ 601024 by omega) (show s + 0 ≤ 7293033 by omega) (fun _ => ⟨143, gs9, rfl, gs9g⟩) ?_
  refine hC _ _ _ _ _ ?_ hcall10
  rintro _ h6 ⟨hL7, r8, rfl⟩
  show Vx (Ex S 24) S M_368 [] Q1 2323 lv [.int r8] h6 c s
  refine Vx.go hC te_368_2323 ?_
  refine ⟨_, _, rfl, rfl, ?_⟩
  show Vx (Ex S 24) S M_368 [] Q1 2324 lv [] h6 c s
  refine Vx.go hC te_368_2324 ?_
  refine ⟨by decide, ?_⟩
  exact Nx _ _ _ _ hl hL7 (by omega) (by omega)
