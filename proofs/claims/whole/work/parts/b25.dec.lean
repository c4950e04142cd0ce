/-! ## the law: decode rows (printed by gen_law.py) -/
theorem dl_1992 : decode code 1992 = .ok (.iaload, 1) := by decide +kernel
theorem dl_1993 : decode code 1993 = .ok (.aload_n 0, 1) := by decide +kernel
theorem dl_1994 : decode code 1994 = .ok (.iload_n 3, 1) := by decide +kernel
theorem dl_1995 : decode code 1995 = .ok (.iconst 2, 1) := by decide +kernel
theorem dl_1996 : decode code 1996 = .ok (.iadd, 1) := by decide +kernel
theorem dl_1997 : decode code 1997 = .ok (.iaload, 1) := by decide +kernel
theorem dl_1998 : decode code 1998 = .ok (.invokevirtual 242, 3) := by decide +kernel
theorem dl_2001 : decode code 2001 = .ok (.if_icmp .eq 133, 3) := by decide +kernel
theorem dl_2006 : decode code 2006 = .ok (.aload_n 1, 1) := by decide +kernel
theorem dl_2007 : decode code 2007 = .ok (.aload_n 0, 1) := by decide +kernel
theorem dl_2008 : decode code 2008 = .ok (.iload_n 3, 1) := by decide +kernel
theorem dl_2009 : decode code 2009 = .ok (.iconst 1, 1) := by decide +kernel
theorem dl_2010 : decode code 2010 = .ok (.iadd, 1) := by decide +kernel
theorem dl_2011 : decode code 2011 = .ok (.iaload, 1) := by decide +kernel
theorem dl_2012 : decode code 2012 = .ok (.invokevirtual 243, 3) := by decide +kernel
theorem dl_2015 : decode code 2015 = .ok (.aload_n 2, 1) := by decide +kernel
theorem dl_2016 : decode code 2016 = .ok (.aload_n 0, 1) := by decide +kernel
theorem dl_2017 : decode code 2017 = .ok (.iload_n 3, 1) := by decide +kernel
theorem dl_2018 : decode code 2018 = .ok (.iconst 1, 1) := by decide +kernel
theorem dl_2019 : decode code 2019 = .ok (.iadd, 1) := by decide +kernel
theorem dl_2020 : decode code 2020 = .ok (.iaload, 1) := by decide +kernel
theorem dl_2021 : decode code 2021 = .ok (.invokevirtual 246, 3) := by decide +kernel
theorem dl_2024 : decode code 2024 = .ok (.if_icmp .eq 110, 3) := by decide +kernel
theorem dl_2029 : decode code 2029 = .ok (.aload_n 1, 1) := by decide +kernel
theorem dl_2030 : decode code 2030 = .ok (.aload_n 0, 1) := by decide +kernel
theorem dl_2031 : decode code 2031 = .ok (.iload_n 3, 1) := by decide +kernel
theorem dl_2032 : decode code 2032 = .ok (.iconst 1, 1) := by decide +kernel
theorem dl_2033 : decode code 2033 = .ok (.iadd, 1) := by decide +kernel
theorem dl_2034 : decode code 2034 = .ok (.iaload, 1) := by decide +kernel
theorem dl_2035 : decode code 2035 = .ok (.invokevirtual 247, 3) := by decide +kernel
theorem dl_2038 : decode code 2038 = .ok (.aload_n 2, 1) := by decide +kernel
theorem dl_2039 : decode code 2039 = .ok (.aload_n 0, 1) := by decide +kernel
theorem dl_2040 : decode code 2040 = .ok (.iload_n 3, 1) := by decide +kernel
theorem dl_2041 : decode code 2041 = .ok (.iconst 1, 1) := by decide +kernel
theorem dl_2042 : decode code 2042 = .ok (.iadd, 1) := by decide +kernel
theorem dl_2043 : decode code 2043 = .ok (.iaload, 1) := by decide +kernel
theorem dl_2044 : decode code 2044 = .ok (.invokevirtual 250, 3) := by decide +kernel
theorem dl_2047 : decode code 2047 = .ok (.if_icmp .eq 87, 3) := by decide +kernel
theorem dl_2052 : decode code 2052 = .ok (.aload_n 1, 1) := by decide +kernel
theorem dl_2053 : decode code 2053 = .ok (.aload_n 0, 1) := by decide +kernel
theorem dl_2054 : decode code 2054 = .ok (.iload_n 3, 1) := by decide +kernel
theorem dl_2055 : decode code 2055 = .ok (.iconst 1, 1) := by decide +kernel
theorem dl_2056 : decode code 2056 = .ok (.iadd, 1) := by decide +kernel
theorem dl_2057 : decode code 2057 = .ok (.iaload, 1) := by decide +kernel
theorem dl_2058 : decode code 2058 = .ok (.invokevirtual 251, 3) := by decide +kernel
theorem dl_2061 : decode code 2061 = .ok (.aload_n 2, 1) := by decide +kernel
theorem dl_2062 : decode code 2062 = .ok (.aload_n 0, 1) := by decide +kernel
theorem dl_2063 : decode code 2063 = .ok (.iload_n 3, 1) := by decide +kernel
theorem dl_2064 : decode code 2064 = .ok (.iconst 1, 1) := by decide +kernel
theorem dl_2065 : decode code 2065 = .ok (.iadd, 1) := by decide +kernel
theorem dl_2066 : decode code 2066 = .ok (.iaload, 1) := by decide +kernel
theorem dl_2067 : decode code 2067 = .ok (.invokevirtual 254, 3) := by decide +kernel
theorem dl_2070 : decode code 2070 = .ok (.if_icmp .eq 64, 3) := by decide +kernel
theorem dl_2075 : decode code 2075 = .ok (.aload_n 1, 1) := by decide +kernel
theorem dl_2076 : decode code 2076 = .ok (.aload_n 0, 1) := by decide +kernel
theorem dl_2077 : decode code 2077 = .ok (.iload_n 3, 1) := by decide +kernel
theorem dl_2078 : decode code 2078 = .ok (.iconst 1, 1) := by decide +kernel
theorem dl_2079 : decode code 2079 = .ok (.iadd, 1) := by decide +kernel
theorem dl_2080 : decode code 2080 = .ok (.iaload, 1) := by decide +kernel
theorem dl_2081 : decode code 2081 = .ok (.aload_n 0, 1) := by decide +kernel
theorem dl_2082 : decode code 2082 = .ok (.iload_n 3, 1) := by decide +kernel
theorem dl_2083 : decode code 2083 = .ok (.iconst 2, 1) := by decide +kernel
theorem dl_2084 : decode code 2084 = .ok (.iadd, 1) := by decide +kernel
theorem dl_2085 : decode code 2085 = .ok (.iaload, 1) := by decide +kernel
theorem dl_2086 : decode code 2086 = .ok (.invokevirtual 255, 3) := by decide +kernel
theorem dl_2089 : decode code 2089 = .ok (.aload_n 2, 1) := by decide +kernel
theorem dl_2090 : decode code 2090 = .ok (.aload_n 0, 1) := by decide +kernel
theorem dl_2091 : decode code 2091 = .ok (.iload_n 3, 1) := by decide +kernel
theorem dl_2092 : decode code 2092 = .ok (.iconst 1, 1) := by decide +kernel
theorem dl_2093 : decode code 2093 = .ok (.iadd, 1) := by decide +kernel
theorem dl_2094 : decode code 2094 = .ok (.iaload, 1) := by decide +kernel
theorem dl_2095 : decode code 2095 = .ok (.aload_n 0, 1) := by decide +kernel
theorem dl_2096 : decode code 2096 = .ok (.iload_n 3, 1) := by decide +kernel
theorem dl_2097 : decode code 2097 = .ok (.iconst 2, 1) := by decide +kernel
theorem dl_2098 : decode code 2098 = .ok (.iadd, 1) := by decide +kernel
theorem dl_2099 : decode code 2099 = .ok (.iaload, 1) := by decide +kernel
theorem dl_2100 : decode code 2100 = .ok (.invokevirtual 258, 3) := by decide +kernel
theorem dl_2103 : decode code 2103 = .ok (.if_icmp .eq 31, 3) := by decide +kernel
theorem dl_2108 : decode code 2108 = .ok (.aload_n 1, 1) := by decide +kernel
theorem dl_2109 : decode code 2109 = .ok (.invokevirtual 259, 3) := by decide +kernel
theorem dl_2112 : decode code 2112 = .ok (.aload_n 2, 1) := by decide +kernel
theorem dl_2113 : decode code 2113 = .ok (.invokevirtual 262, 3) := by decide +kernel
theorem dl_2116 : decode code 2116 = .ok (.if_icmp .eq 18, 3) := by decide +kernel
theorem dl_2121 : decode code 2121 = .ok (.aload_n 1, 1) := by decide +kernel
theorem dl_2122 : decode code 2122 = .ok (.invokevirtual 263, 3) := by decide +kernel
theorem dl_2125 : decode code 2125 = .ok (.aload_n 2, 1) := by decide +kernel
theorem dl_2126 : decode code 2126 = .ok (.invokevirtual 266, 3) := by decide +kernel
theorem dl_2129 : decode code 2129 = .ok (.if_icmp .eq 5, 3) := by decide +kernel
theorem dl_2134 : decode code 2134 = .ok (.iinc 3 6, 3) := by decide +kernel
theorem dl_2137 : decode code 2137 = .ok (.goto (-2119), 3) := by decide +kernel
theorem dl_2140 : decode code 2140 = .ok (.iconst 1, 1) := by decide +kernel
theorem dl_2141 : decode code 2141 = .ok (.ireturn, 1) := by decide +kernel
